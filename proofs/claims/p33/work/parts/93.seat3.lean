/-! isSeat: the place for a group, as the law looks for it -/
section S3
variable {n C : Nat} {g : Gm} {S T : Sg} {s many row : Int32} {Q : Nat → Int32 → Sg → Prop}
/-- the best of the places from lo to hi - 1 -/
def Bst (F : Int32 → Prop) (off : Int32 → Int32) (lo hi k : Int32) : Prop := lo ≤ k ∧ k < hi ∧ F k ∧ ∀ j : Int32, lo ≤ j → j < hi → F j → off k < off j ∨ (off k = off j ∧ k ≤ j)
theorem Bst_eq {F : Int32 → Prop} {off : Int32 → Int32} {lo hi k k' : Int32} (h : Bst F off lo hi k) (h' : Bst F off lo hi k') : k = k' := by
  obtain ⟨a1, a2, a3, a4⟩ := h
  obtain ⟨b1, b2, b3, b4⟩ := h'
  have c := a4 k' b1 b2 b3
  have d := b4 k a1 a2 a3
  rcases c with c | c <;> rcases d with d | d <;> lia
theorem bst_spec : ∀ m : Nat, m ≤ 1000 → ((bst g s many row m).1 = -1 ∧ ∀ j : Int32, 0 ≤ j → j < nI m → ¬ allF g s (g 104 (nt (g 123 (nt s))) * row + j) many) ∨ (∃ k, bst g s many row m = (k, offS g s many k) ∧ Bst (fun j => allF g s (g 104 (nt (g 123 (nt s))) * row + j) many) (offS g s many) 0 (nI m) k)
  | 0, _ => Or.inl ⟨rfl, fun j j0 j1 => by exfalso; have : j < 0 := j1; lia⟩
  | m + 1, hm => by
    have e1 : (nI m).toInt = m := nI_toInt (by omega)
    have z0 : (0 : Int32).toInt = 0 := rfl
    have m0 : 0 ≤ nI m := by rw [z_le, e1]; omega
    have m1 : nI m ≤ 1000 := by rw [z_le, e1]; show (m : Int) ≤ 1000; omega
    have lt : ∀ j : Int32, j < nI (m + 1) → j < nI m ∨ j = nI m := fun j hj => by
      rw [nI1] at hj
      exact i32_lt1 hj m0 m1
    have ih := bst_spec m (by omega)
    have e : bst g s many row (m + 1) = by classical exact (if allF g s (g 104 (nt (g 123 (nt s))) * row + nI m) many ∧ ((bst g s many row m).1 = -1 ∨ offS g s many (nI m) < (bst g s many row m).2) then (nI m, offS g s many (nI m)) else bst g s many row m) := rfl
    rw [e]
    by_cases c : allF g s (g 104 (nt (g 123 (nt s))) * row + nI m) many ∧ ((bst g s many row m).1 = -1 ∨ offS g s many (nI m) < (bst g s many row m).2)
    · rw [if_pos c]
      refine Or.inr ⟨nI m, rfl, m0, by rw [nI1]; lia, c.1, fun j j0 j1 jF => ?_⟩
      rcases lt j j1 with z | z
      · rcases ih with ⟨i1, i2⟩ | ⟨k, i1, i2, i3, i4, i5⟩
        · exact absurd jF (i2 j j0 z)
        · have c2 : offS g s many (nI m) < offS g s many k := by
            rcases c.2 with y | y
            · rw [i1] at y
              have y : k = -1 := y
              exfalso; lia
            · rw [i1] at y; exact y
          left
          rcases i5 j j0 z jF with y | y
          · lia
          · lia
      · rw [z]; exact Or.inr ⟨rfl, by lia⟩
    · rw [if_neg c]
      rcases ih with ⟨i1, i2⟩ | ⟨k, i1, i2, i3, i4, i5⟩
      · refine Or.inl ⟨i1, fun j j0 j1 jF => ?_⟩
        rcases lt j j1 with z | z
        · exact i2 j j0 z jF
        · rw [z] at jF; exact c ⟨jF, Or.inl i1⟩
      · refine Or.inr ⟨k, i1, i2, by rw [nI1]; lia, i4, fun j j0 j1 jF => ?_⟩
        rcases lt j j1 with z | z
        · exact i5 j j0 z jF
        · rw [z] at jF ⊢
          have c2 : ¬ offS g s many (nI m) < offS g s many k := fun y => c ⟨jF, Or.inr (by rw [i1]; exact y)⟩
          by_cases y : offS g s many k = offS g s many (nI m)
          · exact Or.inr ⟨y, by lia⟩
          · exact Or.inl (by lia)
/-- what the law has found in a row, the places above x seen -/
def RI (g : Gm) (s many row K : Int32) (st0 : Prop) (x at9 best : Int32) : Prop := (at9 = -1 ∧ best = 1000 ∧ ∀ j : Int32, x < j → j ≤ K → ¬ (st0 ∧ allF g s (g 104 (nt (g 123 (nt s))) * row + j) many)) ∨ ∃ k, at9 = g 104 (nt (g 123 (nt s))) * row + k ∧ best = offS g s many k ∧ Bst (fun j => st0 ∧ allF g s (g 104 (nt (g 123 (nt s))) * row + j) many) (offS g s many) (x + 1) (K + 1) k
theorem RI_step {K x at9 best c : Int32} {st0 : Prop} (h : RI g s many row K st0 x at9 best) (x0 : 0 ≤ x) (xK : x ≤ K) (K1 : K ≤ 100) (ho : offS g s many x ≤ 1000) (hc : c = 1 ∧ (st0 ∧ allF g s (g 104 (nt (g 123 (nt s))) * row + x) many) ∨ c = 0 ∧ ¬ (st0 ∧ allF g s (g 104 (nt (g 123 (nt s))) * row + x) many)) : (c = 1 ∧ offS g s many x ≤ best → RI g s many row K st0 (x - 1) (g 104 (nt (g 123 (nt s))) * row + x) (offS g s many x)) ∧ (¬ (c = 1 ∧ offS g s many x ≤ best) → RI g s many row K st0 (x - 1) at9 best) := by
  have ex : x - 1 + 1 = x := by lia
  have sp : ∀ j : Int32, x - 1 < j → x < j ∨ j = x := fun j hj => by
    by_cases e : j = x
    · exact Or.inr e
    · exact Or.inl (by lia)
  constructor
  · rintro ⟨c1, c2⟩
    have hF := (hc.resolve_right (fun o => by rw [c1] at o; exact absurd o.1 (by decide))).2
    refine Or.inr ⟨x, rfl, rfl, by lia, by lia, hF, fun j j0 j1 jF => ?_⟩
    rw [ex] at j0
    rcases sp j (by lia) with z | z
    · rcases h with ⟨-, -, i2⟩ | ⟨k, i0, i1, i2, i3, i4, i5⟩
      · exact absurd jF (i2 j z (by lia))
      · rw [i1] at c2
        rcases i5 j (by lia) j1 jF with y | y
        · exact Or.inl (by lia)
        · by_cases w : offS g s many x = offS g s many j
          · exact Or.inr ⟨w, by lia⟩
          · exact Or.inl (by lia)
    · rw [z]; exact Or.inr ⟨rfl, by lia⟩
  · intro hn
    rcases h with ⟨i0, i1, i2⟩ | ⟨k, i0, i1, i2, i3, i4, i5⟩
    · refine Or.inl ⟨i0, i1, fun j j0 j1 jF => ?_⟩
      rcases sp j j0 with z | z
      · exact i2 j z j1 jF
      · rw [z] at jF
        exact hn ⟨(hc.resolve_right (fun o => o.2 jF)).1, by rw [i1]; exact ho⟩
    · refine Or.inr ⟨k, i0, i1, by lia, i3, i4, fun j j0 j1 jF => ?_⟩
      rw [ex] at j0
      rcases sp j (by lia) with z | z
      · exact i5 j (by lia) j1 jF
      · rw [z] at jF ⊢
        have c2 : ¬ offS g s many x ≤ best := fun y => hn ⟨(hc.resolve_right (fun o => o.2 jF)).1, y⟩
        rw [i1] at c2
        exact Or.inl (by lia)
/-- a row whole -/
theorem RI_end {K at9 best : Int32} {st0 : Prop} (hs : st0) (h : RI g s many row K st0 (-1) at9 best) (K1 : K ≤ 100) (hK : K = g 104 (nt (g 123 (nt s))) - many) (hm : -10 ≤ K) (w0 : 0 ≤ row) : (at9 = -1 ∧ (bst g s many row (nps g s many)).1 = -1) ∨ (∃ k, 0 ≤ k ∧ k ≤ K ∧ at9 = g 104 (nt (g 123 (nt s))) * row + k ∧ (bst g s many row (nps g s many)).1 = k) := by
  have eN : g 104 (nt (g 123 (nt s))) + 1 - many = K + 1 := by rw [hK]; lia
  have e9 : (-1 : Int32) + 1 = 0 := by decide
  by_cases kk : 0 ≤ K
  · have ei : nI (nps g s many) = K + 1 := by
      unfold nps
      rw [eN, nI_nt0 (by lia)]
    have hle : nps g s many ≤ 1000 := by
      unfold nps
      rw [eN]
      exact nt_le (by decide) (show K + 1 ≤ 1000 by lia)
    have sp := bst_spec (g := g) (s := s) (many := many) (row := row) (nps g s many) hle
    rw [ei] at sp
    rcases h with ⟨i0, i1, i2⟩ | ⟨k, i0, i1, i2⟩
    · rcases sp with ⟨b1, b2⟩ | ⟨k, b1, b2⟩
      · exact Or.inl ⟨i0, b1⟩
      · exact absurd ⟨hs, b2.2.2.1⟩ (i2 k (by have := b2.1; lia) (by have := b2.2.1; lia))
    · rw [e9] at i2
      rcases sp with ⟨b1, b2⟩ | ⟨k', b1, b2⟩
      · exact absurd i2.2.2.1.2 (b2 k i2.1 i2.2.1)
      · have i3 : Bst (fun j => allF g s (g 104 (nt (g 123 (nt s))) * row + j) many) (offS g s many) 0 (K + 1) k := ⟨i2.1, i2.2.1, i2.2.2.1.2, fun j j0 j1 jF => i2.2.2.2 j j0 j1 ⟨hs, jF⟩⟩
        have := Bst_eq i3 b2
        subst this
        exact Or.inr ⟨k, i2.1, by have := i2.2.1; lia, i0, by rw [b1]⟩
  · have e0 : nps g s many = 0 := by
      unfold nps
      rw [eN]
      have := nt_le (x := K + 1) (n := 0) (by decide) (show K + 1 ≤ 0 by lia)
      omega
    rcases h with ⟨i0, i1, i2⟩ | ⟨k, i0, i1, i2, i3, -⟩
    · exact Or.inl ⟨i0, by rw [e0]; rfl⟩
    · exfalso; rw [e9] at i2; lia
end S3
