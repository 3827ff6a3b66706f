/-! isShown: cancel, and whole -/
section P2
variable {n C : Nat} {g : Gm} {S T : Sg} {s : Int32} {Q : Nat → Int32 → Sg → Prop}
theorem hN_le {g1 : Gm} : ∀ n : Nat, (∀ i, i < n → g1 135 i = 0 → g 135 i = 0) → hN g1 n ≤ hN g n
  | 0, _ => Nat.le_refl _
  | n + 1, h => by
    have ih := hN_le (g1 := g1) n (fun i hi => h i (by omega))
    have h1 := h n (by omega)
    show hN g1 n + (if g1 135 n = 0 then 1 else 0) ≤ hN g n + (if g 135 n = 0 then 1 else 0)
    by_cases z : g1 135 n = 0
    · rw [if_pos z, if_pos (h1 z)]; omega
    · rw [if_neg z]; split <;> omega
theorem lnN_le {g1 : Gm} : ∀ n : Nat, (∀ i, i < n → nt (g1 128 i) ≤ nt (g 128 i)) → lnN g1 n ≤ lnN g n
  | 0, _ => Nat.le_refl _
  | n + 1, h => by
    have ih := lnN_le (g1 := g1) n (fun i hi => h i (by omega))
    have h1 := h n (by omega)
    show lnN g1 n + nt (g1 128 n) ≤ lnN g n + nt (g 128 n)
    omega
theorem can_o {c i : Nat} (h : c ≠ 140 ∧ c ≠ 141 ∧ c ≠ 135 ∧ c ≠ 126 ∧ c ≠ 127 ∧ c ≠ 128 ∧ c ≠ 125) : gCancel g s c i = g c i := by
  unfold gCancel
  rw [if_neg (by omega), if_neg (by omega), if_neg (by omega), if_neg (by omega), if_neg (by omega), if_neg (by omega)]
theorem can_125 {i : Nat} : gCancel g s 125 i = if i = nt s then 4 else g 125 i := by
  unfold gCancel
  rw [if_neg (by omega), if_neg (by omega), if_neg (by omega), if_neg (by omega), if_neg (by omega)]
  by_cases z : i = nt s
  · rw [if_pos ⟨rfl, z⟩, if_pos z]
  · rw [if_neg (fun y => z y.2), if_neg z]
theorem can_128 {i : Nat} : gCancel g s 128 i = if i = nt s then 0 else g 128 i := by
  unfold gCancel
  rw [if_neg (by omega), if_neg (by omega), if_neg (by omega), if_neg (by omega)]
  by_cases z : i = nt s
  · rw [if_pos ⟨rfl, z⟩, if_pos z]
  · rw [if_neg (fun y => z y.2), if_neg z, if_neg (by omega)]
theorem can_135 {i : Nat} (h : i < nt (g 331 0)) : gCancel g s 135 i = if g 132 i = s then 1 else g 135 i := by
  unfold gCancel
  rw [if_neg (by omega), if_neg (by omega)]
  by_cases z : g 132 i = s
  · rw [if_pos ⟨rfl, h, z⟩, if_pos z]
  · rw [if_neg (fun y => z y.2.2), if_neg z, if_neg (by omega), if_neg (by omega), if_neg (by omega)]
theorem can_140 {i : Nat} (h : i < nt (g 336 0)) : gCancel g s 140 i = if g 137 i = s then 0 else g 140 i := by
  unfold gCancel
  by_cases z : g 137 i = s
  · rw [if_pos ⟨rfl, h, z⟩, if_pos z]
  · rw [if_neg (fun y => z y.2.2), if_neg z, if_neg (by omega), if_neg (by omega), if_neg (by omega), if_neg (by omega), if_neg (by omega)]
theorem can_141 {i : Nat} (h : i < nt (g 336 0)) : gCancel g s 141 i = if g 137 i = s then 1 else g 141 i := by
  unfold gCancel
  rw [if_neg (by omega)]
  by_cases z : g 137 i = s
  · rw [if_pos ⟨rfl, h, z⟩, if_pos z]
  · rw [if_neg (fun y => z y.2.2), if_neg z, if_neg (by omega), if_neg (by omega), if_neg (by omega), if_neg (by omega)]
theorem can_pl {c : Nat} {y k : Int32} (hc : c = 126 ∨ c = 127) (s0 : 0 ≤ s) (s1 : s < 5) (y0 : 0 ≤ y) (y1 : y < 5) (k0 : 0 ≤ k) (k1 : k < 12) : gCancel g s c (nt (48 * y + k)) = if y = s then -1 else g c (nt (48 * y + k)) := by
  have e : nt (48 * s) + 48 = nt (48 * s + 48) := by
    rw [nt_add (x := 48 * s) (y := 48) (by lia) (by decide) (by lia) (by decide), show nt 48 = 48 by decide]
  have i1 := ntle (x := 48 * s) (y := 48 * y + k) (by lia) (by lia)
  have i2 := ntlt (x := 48 * y + k) (y := 48 * s + 48) (by lia) (by lia)
  unfold gCancel
  rw [if_neg (by omega), if_neg (by omega), if_neg (by omega), e]
  by_cases z : y = s
  · subst z
    rw [if_pos ⟨hc, i1.mpr (by lia), i2.mpr (by lia)⟩, if_pos rfl]
  · rw [if_neg (fun u => z (by have := i1.mp u.2.1; have := i2.mp u.2.2; lia)), if_neg z, if_neg (by omega), if_neg (by omega)]
theorem LB_cancel (hB : LB C g) (hI : Ia g) (s0 : 0 ≤ s) : LB C (gCancel g s) := by
  have n4 := n331 (ia_n hI)
  obtain ⟨b1, b2, b3, b4, b5, b6⟩ := hB
  have o : ∀ c i, (c ≠ 140 ∧ c ≠ 141 ∧ c ≠ 135 ∧ c ≠ 126 ∧ c ≠ 127 ∧ c ≠ 128 ∧ c ≠ 125) → gCancel g s c i = g c i := fun c i h => can_o h
  have e321 := o 321 0 (by decide)
  have e336 := o 336 0 (by decide)
  have e331 := o 331 0 (by decide)
  have e302 := o 302 0 (by decide)
  have e307 := o 307 0 (by decide)
  have e316 := o 316 0 (by decide)
  refine ⟨?_, ?_, ?_, fun x x0 x1 => ?_, ?_, ?_⟩
  · unfold B1; rw [e302, e307, e316, e321, e331]; exact b1
  · intro i i0 i1; rw [e302] at i1; rw [o 103 _ (by decide), o 104 _ (by decide)]; exact b2 i i0 i1
  · intro i i0 i1; rw [e336] at i1; rw [o 139 _ (by decide)]; exact b3 i i0 i1
  · rw [e321] at x1
    rw [can_128]
    split
    · exact ⟨by decide, fun k k0 k1 => by exfalso; lia⟩
    · refine ⟨(b4 x x0 x1).1, fun k k0 k1 => ?_⟩
      rw [o 129 _ (by decide)]; exact (b4 x x0 x1).2 k k0 k1
  · unfold PB at b5 ⊢
    rw [e336, e331, e321]
    have h1 : hN (gCancel g s) (nt (g 331 0)) ≤ hN g (nt (g 331 0)) := hN_le _ (fun i hi z => by
      rw [can_135 hi] at z
      split at z
      · exact absurd z (by decide)
      · exact z)
    have h2 : lnN (gCancel g s) (nt (g 321 0)) ≤ lnN g (nt (g 321 0)) := lnN_le _ (fun i _ => by
      rw [can_128]
      split
      · rw [show nt 0 = 0 by decide]; exact Nat.zero_le _
      · exact Nat.le_refl _)
    omega
  · intro k k0 k1
    rw [e316] at k1
    rw [o 117 _ (by decide), o 118 _ (by decide), e307, e302]
    exact b6 k k0 k1
/-- what the law has done to the tickets below x -/
def C1 (S : Sg) (g : Gm) (s x : Int32) (T : Sg) : Prop := (∀ c i, c ≠ 108 → c ≠ 109 → T.1 c i = S.1 c i) ∧ T.2 = S.2 ∧ ∀ j : Int32, 0 ≤ j → j < g 336 0 → T.1 108 (nt j) = (if j < x ∧ g 137 (nt j) = s ∧ g 141 (nt j) = 0 then S.1 108 (nt j) + 16384 else S.1 108 (nt j)) ∧ T.1 109 (nt j) = if j < x ∧ g 137 (nt j) = s then 0 else S.1 109 (nt j)
/-- .. to the holds below x -/
def C2 (S : Sg) (g : Gm) (s x : Int32) (T : Sg) : Prop := (∀ c i, c ≠ 110 → T.1 c i = S.1 c i) ∧ T.2 = S.2 ∧ (∀ j : Int32, 0 ≤ j → j < g 331 0 → T.1 110 (nt j) = (if j < x ∧ g 132 (nt j) = s ∧ g 135 (nt j) = 0 then S.1 110 (nt j) + 128 else S.1 110 (nt j)) ∧ T.1 110 (nt (24 + j)) = S.1 110 (nt (24 + j)))
/-- .. to the places and the line below x -/
def C3 (S : Sg) (s x : Int32) (T : Sg) : Prop := (∀ c i, c ≠ 107 → c ≠ 111 → T.1 c i = S.1 c i) ∧ T.2 = S.2 ∧ (∀ y k : Int32, 0 ≤ y → y < 5 → 0 ≤ k → k < 12 → T.1 107 (nt (12 * y + k)) = if y = s ∧ k < x then 0 else S.1 107 (nt (12 * y + k))) ∧ ∀ y k : Int32, 0 ≤ y → y < 5 → 0 ≤ k → k < 10 → T.1 111 (nt (10 * y + k)) = if y = s ∧ k < x then 0 else S.1 111 (nt (10 * y + k))
theorem LR_cancel {T1 T2 T3 U : Sg} (h : RA n C g S) (s0 : 0 ≤ s) (s1 : s < g 321 0) (st : g 125 (nt s) = 0) (h1 : C1 S g s (g 336 0) T1) (h2 : C2 T1 g s (g 331 0) T2) (h3 : C3 T2 s 12 T3) (e : U = su T3 106 (nt s) (S.1 106 (nt s) + 64)) : LR U (gCancel g s) := by
  have hI := h.2.1
  have hB := h.2.2.2.1
  obtain ⟨c302, c307, c316, b4, c331⟩ := lb_1 hB
  have n3 := n336 (i_n hI)
  have n4 := n331 (i_n hI)
  obtain ⟨⟨⟨a0, a1, a2, a3, a4, a5, a6, a7⟩, x1, x2, x3, x4, x5, x6, x7⟩, ha⟩ := h.2.2.1
  have k : ∀ c i, c < 106 ∨ 111 < c → U.1 c i = S.1 c i := fun c i hc => by
    rw [e, su_ne (Or.inl (by omega)), h3.1 c i (by omega) (by omega), h2.1 c i (by omega), h1.1 c i (by omega) (by omega)]
  have u106 : ∀ i, U.1 106 i = if i = nt s then S.1 106 (nt s) + 64 else S.1 106 i := fun i => by
    by_cases z : i = nt s
    · rw [if_pos z, e, z, su_at]
    · rw [if_neg z, e, su_ne (Or.inr z), h3.1 _ _ (by decide) (by decide), h2.1 _ _ (by decide), h1.1 _ _ (by decide) (by decide)]
  have o : ∀ c i, (c ≠ 140 ∧ c ≠ 141 ∧ c ≠ 135 ∧ c ≠ 126 ∧ c ≠ 127 ∧ c ≠ 128 ∧ c ≠ 125) → gCancel g s c i = g c i := fun c i h => can_o h
  have e321 := o 321 0 (by decide)
  have e336 := o 336 0 (by decide)
  have e331 := o 331 0 (by decide)
  have e302 := o 302 0 (by decide)
  have e307 := o 307 0 (by decide)
  have e316 := o 316 0 (by decide)
  refine ⟨⟨⟨?_, ?_, ?_, ?_, ?_, ?_, ?_, ?_⟩, ⟨fun i x y => ?_, fun i x y => ?_⟩, ⟨fun i x y => ?_, fun i x y => ?_⟩, fun i x y => ?_, fun i x y => ?_, fun i x y => ?_, fun i x y => ?_, fun y m y0 y1 m0 m1 => ?_⟩, fun y m y0 y1 m0 m1 => ?_⟩
  · rw [k _ _ (by omega), o _ _ (by decide)]; exact a0
  · rw [k _ _ (by omega), o _ _ (by decide)]; exact a1
  · rw [k _ _ (by omega), o _ _ (by decide)]; exact a2
  · rw [k _ _ (by omega), o _ _ (by decide)]; exact a3
  · rw [k _ _ (by omega), o _ _ (by decide)]; exact a4
  · rw [k _ _ (by omega), o _ _ (by decide)]; exact a5
  · rw [k _ _ (by omega), o _ _ (by decide)]; exact a6
  · rw [k _ _ (by omega), o _ _ (by decide)]; exact a7
  · rw [e302] at y
    rw [k _ _ (by omega), k _ _ (by omega), o _ _ (by decide), o _ _ (by decide), o _ _ (by decide)]; exact x1.1 i x y
  · rw [k _ _ (by omega), o _ _ (by decide)]; exact x1.2 i x y
  · rw [e307] at y
    rw [k _ _ (by omega), k _ _ (by omega), k _ _ (by omega), k _ _ (by omega), k _ _ (by omega), o _ _ (by decide), o _ _ (by decide), o _ _ (by decide), o _ _ (by decide), o _ _ (by decide)]; exact x2.1 i x y
  · rw [k _ _ (by omega), k _ _ (by omega), k _ _ (by omega), o _ _ (by decide), o _ _ (by decide), o _ _ (by decide)]; exact x2.2 i x y
  · rw [e316] at y
    rw [k _ _ (by omega), k _ _ (by omega), k _ _ (by omega), o _ _ (by decide), o _ _ (by decide), o _ _ (by decide), o _ _ (by decide)]; exact x3 i x y
  · rw [e321] at y
    rw [u106, u106, o 122 _ (by decide), o 123 _ (by decide), o 124 _ (by decide), can_125, if_neg (show ¬ nt (5 + i) = nt s from fun z => by rw [nt_inj (by lia) s0] at z; lia)]
    refine ⟨?_, (x4 i x y).2⟩
    by_cases z : nt i = nt s
    · rw [if_pos z, if_pos z, z, (x4 s s0 s1).1, st]; lia
    · rw [if_neg z, if_neg z]; exact (x4 i x y).1
  · rw [e336] at y
    have il := nt_lt_of x y
    obtain ⟨q1, q2⟩ := h1.2.2 i x y
    have o1 := (ia_t hI.1 i x y).2.2.2.2.1
    have u108 : U.1 108 (nt i) = T1.1 108 (nt i) := by rw [e, su_ne (Or.inl (by decide)), h3.1 _ _ (by decide) (by decide), h2.1 _ _ (by decide)]
    have u109 : U.1 109 (nt i) = T1.1 109 (nt i) := by rw [e, su_ne (Or.inl (by decide)), h3.1 _ _ (by decide) (by decide), h2.1 _ _ (by decide)]
    rw [u108, u109, q1, q2, o 137 _ (by decide), o 138 _ (by decide), o 139 _ (by decide), can_141 il, can_140 il, (x5 i x y).1, (x5 i x y).2]
    by_cases z : g 137 (nt i) = s
    · have w1 : i < g 336 0 ∧ g 137 (nt i) = s := ⟨y, z⟩
      rw [if_pos z, if_pos z, if_pos w1]
      by_cases w : g 141 (nt i) = 0
      · have w2 : i < g 336 0 ∧ g 137 (nt i) = s ∧ g 141 (nt i) = 0 := ⟨y, z, w⟩
        rw [if_pos w2, w]; exact ⟨by lia, rfl⟩
      · have w2 : ¬ (i < g 336 0 ∧ g 137 (nt i) = s ∧ g 141 (nt i) = 0) := fun u => w u.2.2
        rw [if_neg w2, o1.resolve_left w]; exact ⟨rfl, rfl⟩
    · have w1 : ¬ (i < g 336 0 ∧ g 137 (nt i) = s) := fun u => z u.2
      have w2 : ¬ (i < g 336 0 ∧ g 137 (nt i) = s ∧ g 141 (nt i) = 0) := fun u => z u.2.1
      rw [if_neg z, if_neg z, if_neg w1, if_neg w2]; exact ⟨rfl, rfl⟩
  · rw [e331] at y
    have il := nt_lt_of x y
    obtain ⟨q1, q2⟩ := h2.2.2 i x y
    have o1 := (ia_o hI.1 i x y).2.2.2.2.1
    have u110 : ∀ j, U.1 110 j = T2.1 110 j := fun j => by rw [e, su_ne (Or.inl (by decide)), h3.1 _ _ (by decide) (by decide)]
    rw [u110, u110, q1, q2, h1.1 _ _ (by decide) (by decide), h1.1 _ _ (by decide) (by decide), o 132 _ (by decide), o 133 _ (by decide), o 134 _ (by decide), can_135 il, (x6 i x y).1, (x6 i x y).2]
    by_cases z : g 132 (nt i) = s
    · rw [if_pos z]
      by_cases w : g 135 (nt i) = 0
      · have w2 : i < g 331 0 ∧ g 132 (nt i) = s ∧ g 135 (nt i) = 0 := ⟨y, z, w⟩
        rw [if_pos w2, w]; exact ⟨by lia, rfl⟩
      · have w2 : ¬ (i < g 331 0 ∧ g 132 (nt i) = s ∧ g 135 (nt i) = 0) := fun u => w u.2.2
        rw [if_neg w2, o1.resolve_left w]; exact ⟨rfl, rfl⟩
    · have w2 : ¬ (i < g 331 0 ∧ g 132 (nt i) = s ∧ g 135 (nt i) = 0) := fun u => z u.2.1
      rw [if_neg z, if_neg w2]; exact ⟨rfl, rfl⟩
  · have u111 : U.1 111 (nt (10 * y + m)) = T3.1 111 (nt (10 * y + m)) := by rw [e, su_ne (Or.inl (by decide))]
    rw [u111, h3.2.2.2 y m y0 y1 m0 m1, h2.1 _ _ (by decide), h1.1 _ _ (by decide) (by decide), can_128, o 129 _ (by decide), o 130 _ (by decide)]
    by_cases z : y = s
    · subst z
      rw [if_pos ⟨rfl, by lia⟩, if_pos rfl, if_neg (by lia)]
    · have ne : ¬ nt y = nt s := fun u => z ((nt_inj y0 s0).mp u)
      rw [if_neg (fun u => z u.1), if_neg ne]
      exact x7 y m y0 y1 m0 m1
  · have u107 : U.1 107 (nt (12 * y + m)) = T3.1 107 (nt (12 * y + m)) := by rw [e, su_ne (Or.inl (by decide))]
    rw [u107, h3.2.2.1 y m y0 y1 m0 m1, h2.1 _ _ (by decide), h1.1 _ _ (by decide) (by decide), can_pl (Or.inl rfl) s0 (by lia) y0 y1 m0 m1, can_pl (Or.inr rfl) s0 (by lia) y0 y1 m0 m1]
    by_cases z : y = s
    · rw [if_pos ⟨z, by lia⟩, if_pos z, if_pos z]; rfl
    · rw [if_neg (fun u => z u.1), if_neg z, if_neg z]
      exact ha y m y0 y1 m0 m1
theorem V_cancel {is can : Int32} (h : RA n C g S) (hn : n < 20000) (hC : C ≤ 511) (s0 : 0 ≤ s) (his : is = 1 ∧ s < g 321 0 ∨ is = 0 ∧ s = g 321 0) (hcan : can = 1 ∧ (s < g 321 0 ∧ g 125 (nt s) = 0) ∨ can = 0 ∧ ¬ (s < g 321 0 ∧ g 125 (nt s) = 0)) (q : VK n C g Q) : w_L_isShown_59 Q s is can S := by
  have hI := h.2.1
  have hB := h.2.2.2.1
  have b1 := lb_1 hB
  obtain ⟨c302, c307, c316, b4, c331⟩ := lb_1 hB
  obtain ⟨m0, m1, -⟩ := i_n hI
  have n3 := n336 (i_n hI)
  have n4 := n331 (i_n hI)
  have n63 := n336_le hB hC n3.1
  have hx := h.2.2.1.1
  rcases hcan with ⟨ec, s1, st⟩ | ⟨ec, hno⟩
  · have ei := (his.resolve_right (fun o => by have := o.2; lia)).1
    subst ec; subst ei
    have er : rCancel g s = (0, pf g s, gCancel g s) := by
      unfold rCancel
      rw [if_pos ⟨s0, s1⟩, if_pos st]
    have hI2 : Iv (gCancel g s) := by have := Iv_cancel (s := s) hI; rw [er] at this; exact this
    have hB2 : LB C (gCancel g s) := LB_cancel hB hI.1 s0
    -- the end
    have f262 : ∀ (T1 T2 T3 : Sg), C1 S g s (g 336 0) T1 → C2 T1 g s (g 331 0) T2 → C3 T2 s 12 T3 → w_L_isShown_262 Q s 1 1 (pf g s) T3 := fun T1 T2 T3 h1 h2 h3 => by
      unfold w_L_isShown_262 w_L_isShown_275 w_L_isShown_315
      have e106 : T3.1 106 (nt s) = S.1 106 (nt s) := by rw [h3.1 _ _ (by decide) (by decide), h2.1 _ _ (by decide), h1.1 _ _ (by decide) (by decide)]
      rw [e106]
      refine ⟨fun z => absurd z (by decide), fun _ => ⟨va s0 (by show _ < 11; lia), va s0 (by show _ < 11; lia), ?_⟩⟩
      intro U eU
      have hL := LR_cancel h s0 s1 st h1 h2 h3 eU
      have hc : clf S U := by
        refine ⟨fun c i hc => ?_, by rw [eU]; exact h3.2.1.trans (h2.2.1.trans h1.2.1)⟩
        have nc : ¬ (103 ≤ c ∧ c ≤ 141) := fun z => hc (Or.inl (Or.inl z))
        rw [eU, su_ne (Or.inl (by omega)), h3.1 _ _ (by omega) (by omega), h2.1 _ _ (by omega), h1.1 _ _ (by omega) (by omega)]
      exact dz_6 (RA_c h ⟨hL, hc⟩) hI (RA_b h ⟨hL, hc⟩) hn (RA_go ⟨hL, hc⟩ (by rw [er]) hI2 hB2 (v := pf g s) (by rw [er, dva_0]) (fun S2 r2 => kz ⟨fun w => absurd w (by decide), fun _ => ⟨fun w => absurd w (by decide), fun _ => ⟨fun _ => q _ S2 r2 (by rw [can_o (by decide)]; exact Nat.le_refl _) (by rw [can_o (by decide)]; lia), fun w => absurd rfl w⟩⟩⟩))
    -- places and line
    have L3 : ∀ (T1 T2 : Sg), C1 S g s (g 336 0) T1 → C2 T1 g s (g 331 0) T2 → ∀ (d : Nat) (x : Int32) (T3 : Sg), 0 ≤ x → x + nI d = 12 → x ≤ 12 → C3 T2 s x T3 → w_L_isShown_209 Q (d + 1) s 1 1 (pf g s) x T3 := by
      intro T1 T2 h1 h2 d
      induction d with
      | zero =>
        intro x T3 x0 x1 x2 h3
        have ex : x = 12 := by rw [← x1]; show x = x + 0; lia
        subst ex
        rw [w_L_isShown_209]
        exact ⟨fun _ => f262 T1 T2 T3 h1 h2 h3, fun z => absurd (by decide) z⟩
      | succ d ih =>
        intro x T3 x0 x1 x2 h3
        rw [nI1] at x1
        rw [w_L_isShown_209]
        refine ⟨fun z => ?_, fun z => ⟨fun y => absurd y (by decide), fun _ => ⟨va (by lia) (by show _ < 60; lia), ?_⟩⟩⟩
        · have ex : x = 12 := by lia
          subst ex
          exact f262 T1 T2 T3 h1 h2 h3
        · intro S19 e19
          unfold w_L_isShown_253
          have go : ∀ x9 : Int32, (x9 = if 10 ≤ x then 0 else x) → (vp_in (10 * s + x9) 50 ∧ (∀ S18, S18 = su S19 111 (nt (10 * s + x9)) 0 → w_L_isShown_209 Q (d + 1) s 1 1 (pf g s) (x + 1) S18)) := fun x9 h9 => by
            have hb : 0 ≤ x9 ∧ x9 < 10 := by rw [h9]; split <;> constructor <;> lia
            refine ⟨va (by have := hb.1; lia) (by have := hb.2; show _ < 50; lia), ?_⟩
            intro S18 e18
            refine ih (x + 1) S18 (by lia) (by lia) (by lia) ⟨fun c i z1 z2 => ?_, ?_, fun y k y0 y1 k0 k1 => ?_, fun y k y0 y1 k0 k1 => ?_⟩
            · rw [e18, su_ne (Or.inl z2), e19, su_ne (Or.inl z1)]; exact h3.1 c i z1 z2
            · rw [e18, e19]; exact h3.2.1
            · rw [e18, su_ne (Or.inl (by decide)), e19]
              by_cases w : y = s ∧ k = x
              · obtain ⟨rfl, rfl⟩ := w
                rw [su_at, if_pos ⟨rfl, by lia⟩]
              · rw [su_ne (Or.inr (fun e9 => w ((a_inj y0 y1 k0 k1 s0 (by lia) x0 (by lia)).mp e9))), h3.2.2.1 y k y0 y1 k0 k1]
                by_cases u : y = s ∧ k < x
                · have u2 : y = s ∧ k < x + 1 := ⟨u.1, by have := u.2; lia⟩
                  rw [if_pos u, if_pos u2]
                · have u2 : ¬ (y = s ∧ k < x + 1) := fun v => u ⟨v.1, (i32_lt1 v.2 x0 (by lia)).resolve_right (fun t => w ⟨v.1, t⟩)⟩
                  rw [if_neg u, if_neg u2]
            · rw [e18]
              by_cases w : y = s ∧ k = x9
              · obtain ⟨rfl, rfl⟩ := w
                rw [su_at, if_pos ⟨rfl, by rw [h9]; split <;> lia⟩]
              · rw [su_ne (Or.inr (fun e9 => w ((l_inj y0 y1 k0 k1 s0 (by lia) hb.1 hb.2).mp e9))), e19, su_ne (Or.inl (by decide)), h3.2.2.2 y k y0 y1 k0 k1]
                by_cases u : y = s ∧ k < x
                · have u2 : y = s ∧ k < x + 1 := ⟨u.1, by have := u.2; lia⟩
                  rw [if_pos u, if_pos u2]
                · have u2 : ¬ (y = s ∧ k < x + 1) := fun v => u ⟨v.1, by
                    rcases i32_lt1 v.2 x0 (by lia) with t | t
                    · exact t
                    · exfalso
                      have : ¬ 10 ≤ x := by lia
                      rw [if_neg this] at h9
                      exact w ⟨v.1, by rw [t, h9]⟩⟩
                  rw [if_neg u, if_neg u2]
          exact ⟨fun y => go 0 (by rw [if_pos y]), fun y => go x (by rw [if_neg y])⟩
    -- holds
    have L2 : ∀ (T1 : Sg), C1 S g s (g 336 0) T1 → ∀ (d : Nat) (x : Int32) (T2 : Sg), 0 ≤ x → x + nI d = g 331 0 → x ≤ g 331 0 → C2 T1 g s x T2 → w_L_isShown_146 Q (d + 1) s 1 1 (pf g s) x T2 := by
      intro T1 h1 d
      have f206 : ∀ T2, C2 T1 g s (g 331 0) T2 → w_L_isShown_206 Q s 1 1 (pf g s) T2 := fun T2 h2 => by
        unfold w_L_isShown_206
        exact ⟨13, L3 T1 T2 h1 h2 12 0 T2 (by decide) (by decide) (by decide) ⟨fun _ _ _ _ => rfl, rfl, fun y k y0 y1 k0 k1 => by rw [if_neg (fun u => by have := u.2; lia)], fun y k y0 y1 k0 k1 => by rw [if_neg (fun u => by have := u.2; lia)]⟩⟩
      induction d with
      | zero =>
        intro x T2 x0 x1 x2 h2
        have ex : x = g 331 0 := by rw [← x1]; show x = x + 0; lia
        rw [w_L_isShown_146, h2.1 _ _ (by decide), h1.1 _ _ (by decide) (by decide), lg_6 hx]
        exact ⟨vd, fun _ => f206 T2 (by rw [ex] at h2; exact h2), fun z => absurd (by lia) z⟩
      | succ d ih =>
        intro x T2 x0 x1 x2 h2
        rw [nI1] at x1
        rw [w_L_isShown_146, h2.1 112 _ (by decide), h1.1 112 _ (by decide) (by decide), lg_6 hx]
        by_cases hlt : x < g 331 0
        · obtain ⟨d1, d2, d3, d4, d5, d6⟩ := d_all hx hI.1 hB x0 hlt
          have o135 := (ia_o hI.1 x x0 hlt).2.2.2.2.1
          have vk : vp_in x 48 := va x0 (by show _ < 48; lia)
          have t110 : T2.1 110 (nt x) = S.1 110 (nt x) := by
            rw [(h2.2.2 x x0 hlt).1, if_neg (fun u => by have := u.1; lia), h1.1 _ _ (by decide) (by decide)]
          have t1x : T1.1 110 (nt x) = S.1 110 (nt x) := h1.1 _ _ (by decide) (by decide)
          have nx : ∀ v : Int32, v = (if g 132 (nt x) = s ∧ g 135 (nt x) = 0 then 128 else 0) → w_L_isShown_198 (fun x13 x14 x16 x17 x18 S => w_L_isShown_146 Q (d + 1) x13 x14 x16 x17 x18 S) Q s 1 1 (pf g s) x v (S.1 110 (nt x)) x T2 := fun v hv => by
            unfold w_L_isShown_198
            refine ⟨vk, ?_⟩
            intro S20 e20
            refine ih (x + 1) S20 (by lia) (by lia) (by lia) ⟨fun c i hc => by rw [e20, su_ne (Or.inl hc)]; exact h2.1 c i hc, by rw [e20]; exact h2.2.1, fun j j0 j1 => ⟨?_, ?_⟩⟩
            · rw [e20]
              by_cases z : j = x
              · subst z
                rw [su_at, hv, t1x]
                by_cases w : g 132 (nt j) = s ∧ g 135 (nt j) = 0
                · have w2 : j < j + 1 ∧ g 132 (nt j) = s ∧ g 135 (nt j) = 0 := ⟨by lia, w⟩
                  rw [if_pos w, if_pos w2]
                · have w2 : ¬ (j < j + 1 ∧ g 132 (nt j) = s ∧ g 135 (nt j) = 0) := fun u => w u.2
                  rw [if_neg w, if_neg w2]; lia
              · rw [su_ne (Or.inr (fun y => z ((nt_inj j0 x0).mp y))), (h2.2.2 j j0 j1).1]
                by_cases w : j < x ∧ g 132 (nt j) = s ∧ g 135 (nt j) = 0
                · have w2 : j < x + 1 ∧ g 132 (nt j) = s ∧ g 135 (nt j) = 0 := ⟨by have := w.1; lia, w.2⟩
                  rw [if_pos w, if_pos w2]
                · have w2 : ¬ (j < x + 1 ∧ g 132 (nt j) = s ∧ g 135 (nt j) = 0) := fun u => w ⟨(i32_lt1 u.1 x0 (by lia)).resolve_right z, u.2⟩
                  rw [if_neg w, if_neg w2]
            · rw [e20, su_ne (Or.inr (fun y => by rw [nt_inj (by lia) x0] at y; lia))]
              exact (h2.2.2 j j0 j1).2
          rw [t110, d1, d3]
          unfold w_L_isShown_197
          refine ⟨vd, fun z => absurd z (by lia), fun _ => ⟨fun z => absurd z (by decide), fun _ => ⟨vk, vk, fun z => ⟨vk, fun y => nx 0 ?_, fun y => nx 128 ?_⟩, fun z => nx 0 ?_⟩⟩⟩
          · rw [if_neg (fun u => by rw [y] at u; exact absurd u.2 (by decide))]
          · rw [if_pos ⟨z, o135.resolve_right y⟩]
          · rw [if_neg (fun u => z u.1)]
        · exact ⟨vd, fun _ => f206 T2 (by rw [show x = g 331 0 by lia] at h2; exact h2), fun z => absurd (by lia) z⟩
    -- tickets
    have L1 : ∀ (d : Nat) (x : Int32) (T1 : Sg), 0 ≤ x → x + nI d = g 336 0 → x ≤ g 336 0 → C1 S g s x T1 → w_L_isShown_67 Q (d + 1) s 1 1 (sm (fun t => if g 137 (nt t) = s then g 140 (nt t) else 0) (nt x)) x T1 := by
      intro d
      have f143 : ∀ T1, C1 S g s (g 336 0) T1 → w_L_isShown_143 Q s 1 1 (pf g s) T1 := fun T1 h1 => by
        unfold w_L_isShown_143
        exact ⟨nt (g 331 0) + 1, L2 T1 h1 (nt (g 331 0)) 0 T1 (by decide) (by rw [nI_nt0 n4.1]; lia) n4.1 ⟨fun _ _ _ => rfl, rfl, fun j j0 j1 => ⟨by rw [if_neg (fun u => by have := u.1; lia)], rfl⟩⟩⟩
      induction d with
      | zero =>
        intro x T1 x0 x1 x2 h1
        have ex : x = g 336 0 := by rw [← x1]; show x = x + 0; lia
        rw [w_L_isShown_67, h1.1 _ _ (by decide) (by decide), lg_7 hx]
        refine ⟨vd, fun _ => ?_, fun z => absurd (by lia) z⟩
        rw [ex] at h1 ⊢
        exact f143 T1 h1
      | succ d ih =>
        intro x T1 x0 x1 x2 h1
        rw [nI1] at x1
        rw [w_L_isShown_67, h1.1 112 _ (by decide) (by decide), lg_7 hx]
        by_cases hlt : x < g 336 0
        · obtain ⟨d1, d2, d3, d4, d5, d6, d7, d8⟩ := t_all hx hI.1 hB x0 hlt
          have o141 := (ia_t hI.1 x x0 hlt).2.2.2.2.1
          have vt : vp_in x 64 := va x0 (by show _ < 64; lia)
          obtain ⟨q1, q2⟩ := h1.2.2 x x0 hlt
          rw [if_neg (fun u => by have := u.1; lia)] at q1 q2
          have esm : sm (fun t => if g 137 (nt t) = s then g 140 (nt t) else 0) (nt (x + 1)) = sm (fun t => if g 137 (nt t) = s then g 140 (nt t) else 0) (nt x) + (if g 137 (nt x) = s then g 140 (nt x) else 0) := sm_succ x0 (by lia)
          unfold w_L_isShown_137
          rw [q1, d1, q2, d6]
          refine ⟨vd, fun z => absurd z (by lia), fun _ => ⟨fun z => absurd z (by decide), fun _ => ⟨vt, fun z => ⟨vt, ?_⟩, fun z => ?_⟩⟩⟩
          · rintro v22 rfl
            refine ⟨vt, ?_⟩
            intro S23 e23
            have m23 : S23.1 108 (nt x) = S.1 108 (nt x) := by rw [e23, su_ne (Or.inl (by decide)), q1]
            rw [m23, d5]
            unfold w_L_isShown_135 w_L_isShown_137
            have e9 : sm (fun t => if g 137 (nt t) = s then g 140 (nt t) else 0) (nt x) + g 140 (nt x) = sm (fun t => if g 137 (nt t) = s then g 140 (nt t) else 0) (nt (x + 1)) := by rw [esm, if_pos z]
            rw [e9]
            have nx : ∀ v : Int32, v = (if g 141 (nt x) = 0 then 16384 else 0) → ∀ S21, S21 = su S23 108 (nt x) (S.1 108 (nt x) + v) → w_L_isShown_67 Q (d + 1) s 1 1 (sm (fun t => if g 137 (nt t) = s then g 140 (nt t) else 0) (nt (x + 1))) (x + 1) S21 := fun v hv S21 e21 => by
              refine ih (x + 1) S21 (by lia) (by lia) (by lia) ⟨fun c i z1 z2 => by rw [e21, su_ne (Or.inl z1), e23, su_ne (Or.inl z2)]; exact h1.1 c i z1 z2, by rw [e21, e23]; exact h1.2.1, fun j j0 j1 => ⟨?_, ?_⟩⟩
              · rw [e21]
                by_cases y : j = x
                · subst y
                  rw [su_at, hv]
                  by_cases w : g 141 (nt j) = 0
                  · have w2 : j < j + 1 ∧ g 137 (nt j) = s ∧ g 141 (nt j) = 0 := ⟨by lia, z, w⟩
                    rw [if_pos w, if_pos w2]
                  · have w2 : ¬ (j < j + 1 ∧ g 137 (nt j) = s ∧ g 141 (nt j) = 0) := fun u => w u.2.2
                    rw [if_neg w, if_neg w2]; lia
                · rw [su_ne (Or.inr (fun u => y ((nt_inj j0 x0).mp u))), e23, su_ne (Or.inl (by decide)), (h1.2.2 j j0 j1).1]
                  by_cases w : j < x ∧ g 137 (nt j) = s ∧ g 141 (nt j) = 0
                  · have w2 : j < x + 1 ∧ g 137 (nt j) = s ∧ g 141 (nt j) = 0 := ⟨by have := w.1; lia, w.2⟩
                    rw [if_pos w, if_pos w2]
                  · have w2 : ¬ (j < x + 1 ∧ g 137 (nt j) = s ∧ g 141 (nt j) = 0) := fun u => w ⟨(i32_lt1 u.1 x0 (by lia)).resolve_right y, u.2⟩
                    rw [if_neg w, if_neg w2]
              · rw [e21, su_ne (Or.inl (by decide)), e23]
                by_cases y : j = x
                · subst y
                  have w2 : j < j + 1 ∧ g 137 (nt j) = s := ⟨by lia, z⟩
                  rw [su_at, if_pos w2]
                · rw [su_ne (Or.inr (fun u => y ((nt_inj j0 x0).mp u))), (h1.2.2 j j0 j1).2]
                  by_cases w : j < x ∧ g 137 (nt j) = s
                  · have w2 : j < x + 1 ∧ g 137 (nt j) = s := ⟨by have := w.1; lia, w.2⟩
                    rw [if_pos w, if_pos w2]
                  · have w2 : ¬ (j < x + 1 ∧ g 137 (nt j) = s) := fun u => w ⟨(i32_lt1 u.1 x0 (by lia)).resolve_right y, u.2⟩
                    rw [if_neg w, if_neg w2]
            refine ⟨vt, vt, fun y => ⟨vt, nx 0 ?_⟩, fun y => ⟨vt, nx 16384 ?_⟩⟩
            · rw [if_neg (fun u => by rw [y] at u; exact absurd u (by decide))]
            · rw [if_pos (o141.resolve_right y)]
          · have e9 : sm (fun t => if g 137 (nt t) = s then g 140 (nt t) else 0) (nt x) = sm (fun t => if g 137 (nt t) = s then g 140 (nt t) else 0) (nt (x + 1)) := by rw [esm, if_neg z]; lia
            rw [e9]
            refine ih (x + 1) T1 (by lia) (by lia) (by lia) ⟨h1.1, h1.2.1, fun j j0 j1 => ⟨?_, ?_⟩⟩
            · rw [(h1.2.2 j j0 j1).1]
              by_cases w : j < x ∧ g 137 (nt j) = s ∧ g 141 (nt j) = 0
              · have w2 : j < x + 1 ∧ g 137 (nt j) = s ∧ g 141 (nt j) = 0 := ⟨by have := w.1; lia, w.2⟩
                rw [if_pos w, if_pos w2]
              · have w2 : ¬ (j < x + 1 ∧ g 137 (nt j) = s ∧ g 141 (nt j) = 0) := fun u => w ⟨(i32_lt1 u.1 x0 (by lia)).resolve_right (fun t => z (by rw [← t]; exact u.2.1)), u.2⟩
                rw [if_neg w, if_neg w2]
            · rw [(h1.2.2 j j0 j1).2]
              by_cases w : j < x ∧ g 137 (nt j) = s
              · have w2 : j < x + 1 ∧ g 137 (nt j) = s := ⟨by have := w.1; lia, w.2⟩
                rw [if_pos w, if_pos w2]
              · have w2 : ¬ (j < x + 1 ∧ g 137 (nt j) = s) := fun u => w ⟨(i32_lt1 u.1 x0 (by lia)).resolve_right (fun t => z (by rw [← t]; exact u.2)), u.2⟩
                rw [if_neg w, if_neg w2]
        · refine ⟨vd, fun _ => ?_, fun z => absurd (by lia) z⟩
          have ex : x = g 336 0 := by lia
          rw [ex] at h1 ⊢
          exact f143 T1 h1
    unfold w_L_isShown_59
    have := L1 (nt (g 336 0)) 0 S (by decide) (by rw [nI_nt0 n3.1]; lia) n3.1 ⟨fun _ _ _ _ => rfl, rfl, fun j j0 j1 => ⟨by rw [if_neg (fun u => by have := u.1; lia)], by rw [if_neg (fun u => by have := u.1; lia)]⟩⟩
    rw [show nt 0 = 0 by decide] at this
    exact ⟨nt (g 336 0) + 1, this⟩
  · subst ec
    have f : w_L_isShown_262 Q s is 0 0 S := by
      unfold w_L_isShown_262 w_L_isShown_275 w_L_isShown_315
      refine ⟨fun _ => ⟨vd, vd, ?_⟩, fun z => absurd rfl z⟩
      intro S7 s7
      have h7 : LX S7 g := by rw [s7]; exact LX_w10 hx b4
      have a7 : La S7 g := fun x k x0 x1 k0 k1 => by
        rw [s7, su_ne (Or.inl (by decide))]
        exact h.2.2.1.2 x k x0 x1 k0 k1
      have c7 : clf S S7 := by rw [s7]; exact clf_l clf_rf
      rcases his with ⟨e, e2⟩ | ⟨e, e2⟩
      · have er : rCancel g s = (2, 0, g) := by
          unfold rCancel
          rw [if_pos ⟨s0, e2⟩, if_neg (fun w => hno ⟨e2, w⟩)]
        subst e
        exact dz_6 (RA_c h ⟨⟨h7, a7⟩, c7⟩) hI (RA_b h ⟨⟨h7, a7⟩, c7⟩) hn (RA_go ⟨⟨h7, a7⟩, c7⟩ (by rw [er]) hI hB (v := -1000000) (by rw [er, dva_2]) (fun S2 r2 => kz ⟨fun w => absurd w (by decide), fun _ => ⟨fun _ => ⟨fun _ => VK0 r2 ⟨m0, m1⟩ q, fun w => absurd rfl w⟩, fun w => absurd rfl w⟩⟩))
      · have er : rCancel g s = (3, 0, g) := by
          unfold rCancel
          rw [if_neg (fun w => by have := w.2; lia)]
        subst e
        exact dz_6 (RA_c h ⟨⟨h7, a7⟩, c7⟩) hI (RA_b h ⟨⟨h7, a7⟩, c7⟩) hn (RA_go ⟨⟨h7, a7⟩, c7⟩ (by rw [er]) hI hB (v := -3000000) (by rw [er, dva_3]) (fun S2 r2 => kz ⟨fun _ => ⟨fun _ => VK0 r2 ⟨m0, m1⟩ q, fun w => absurd rfl w⟩, fun w => absurd rfl w⟩))
    unfold w_L_isShown_59
    refine ⟨1, ?_⟩
    rw [w_L_isShown_67]
    have f143 : w_L_isShown_143 Q s is 0 0 S := by
      unfold w_L_isShown_143
      refine ⟨1, ?_⟩
      rw [w_L_isShown_146]
      have f206 : w_L_isShown_206 Q s is 0 0 S := by
        unfold w_L_isShown_206
        refine ⟨1, ?_⟩
        rw [w_L_isShown_209]
        exact ⟨fun _ => f, fun _ => ⟨fun _ => f, fun z => absurd rfl z⟩⟩
      exact ⟨vd, fun _ => f206, fun _ => ⟨fun _ => f206, fun z => absurd rfl z⟩⟩
    exact ⟨vd, fun _ => f143, fun _ => ⟨fun _ => f143, fun z => absurd rfl z⟩⟩
theorem T_shown {w a b : Int32} (h : RA n C g S) (hn : n < 20000) (hC : C ≤ 511) (h9 : g 300 0 ≤ 90000) (p7 : 0 ≤ a) (p8 : 0 ≤ b) (q : VK n C g Q) : w_L_isShown w a b S Q := by
  have hI := h.2.1
  have hB := h.2.2.2.1
  have b1 := lb_1 hB
  obtain ⟨c302, c307, c316, b4, c331⟩ := lb_1 hB
  obtain ⟨m0, m1, -, -, -, -, -, -, -, -, n21, -⟩ := i_n hI
  have hx := h.2.2.1.1
  have f42 : ∀ s is st : Int32, 0 ≤ s → (is = 1 ∧ s < g 321 0 ∨ is = 0 ∧ s = g 321 0) → (s < g 321 0 → st = g 125 (nt s)) → (s = g 321 0 → st = 4) → w_L_isShown_42 Q w a b s is st S := fun s is st s0 his h1 h2 => by
    unfold w_L_isShown_42
    have hs : s < g 321 0 ∨ s = g 321 0 := his.elim (fun o => Or.inl o.2) (fun o => Or.inr o.2)
    refine ⟨fun _ => ⟨fun z => V_cancel h hn hC s0 his (Or.inl ⟨rfl, ?_⟩) q, fun z => V_cancel h hn hC s0 his (Or.inr ⟨rfl, fun o => z ?_⟩) q⟩, fun _ => ⟨fun _ => ⟨fun z => V_breaks h hn hC s0 his (Or.inl ⟨rfl, ?_⟩) q, fun z => V_breaks h hn hC s0 his (Or.inr ⟨rfl, fun o => z ?_⟩) q⟩, fun _ => ?_⟩⟩
    · rcases hs with o | o
      · exact ⟨o, by rw [← h1 o]; exact z⟩
      · rw [h2 o] at z; exact absurd z (by decide)
    · rw [h1 o.1]; exact o.2
    · rcases hs with o | o
      · exact ⟨o, by rw [← h1 o]; exact z⟩
      · rw [h2 o] at z; exact absurd z (by decide)
    · rw [h1 o.1]; exact o.2
    · obtain ⟨r0, r1⟩ := rmz (d := 2) (dvz (d := 9) p8 (by decide)).1 (by decide)
      obtain ⟨k0, k1⟩ := rmz (d := 500) p8 (by decide)
      obtain ⟨l0, l1⟩ := rmz (d := 60) p8 (by decide)
      refine ⟨fun _ => V_pass h hn hC h9 ?_ q, fun _ => ⟨fun _ => V_pass h hn hC h9 (Or.inr (Or.inr ⟨by lia, by lia⟩)) q, fun _ => V_pass h hn hC h9 (Or.inr (Or.inr ⟨by lia, by lia⟩)) q⟩⟩
      rcases bit r0 r1 with e | e
      · rw [e]; exact Or.inl rfl
      · rw [e]; exact Or.inr (Or.inl rfl)
  unfold w_L_isShown
  rw [lg_5 hx]
  refine ⟨vd, by lia, ?_⟩
  intro v27 e27
  obtain ⟨a0, a1⟩ := rmz (d := g 321 0 + 1) p7 (by lia)
  rw [← e27] at a0 a1
  unfold w_L_isShown_25
  refine ⟨vd, fun z => ⟨fun _ => f42 v27 0 4 a0 (Or.inr ⟨rfl, by lia⟩) (fun o => by exfalso; lia) (fun _ => rfl), fun y => absurd rfl y⟩, fun z => ⟨fun y => absurd y (by decide), fun _ => ?_⟩⟩
  have s1 : v27 < g 321 0 := by lia
  exact Lstate hx hI.1 b1 a0 s1 (kz (f42 v27 1 _ a0 (Or.inl ⟨rfl, s1⟩) (fun _ => rfl) (fun o => by exfalso; lia)))
end P2
