/-! join, show: what always holds of g holds after each call -/
section KK4
variable {g : Gm}
theorem mem_rng {s : Int32} : ∀ m : Nat, m ≤ 40 → 0 ≤ mem g s m ∧ mem g s m ≤ nI m
  | 0, _ => ⟨by show (0 : Int32) ≤ 0; decide, by show (0 : Int32) ≤ 0; decide⟩
  | m + 1, h => by
    obtain ⟨h1, h2⟩ := mem_rng (s := s) m (by omega)
    have e5 : (nI m).toInt = m := nI_toInt (by omega)
    have e6 : 0 ≤ nI m := by rw [z_le, e5]; exact Int.natCast_nonneg m
    have e7 : nI m ≤ 40 := by rw [z_le, e5]; show (m : Int) ≤ 40; omega
    unfold mem
    rw [nI1]
    split
    · exact ⟨h1, by lia⟩
    · exact ⟨by lia, by exact Int32.le_refl _⟩
theorem jAt_rng {s m : Int32} (hp : 0 ≤ g 128 (nt s) ∧ g 128 (nt s) ≤ 40) : 0 ≤ jAt g s m ∧ jAt g s m ≤ g 128 (nt s) := by
  unfold jAt
  split
  · exact ⟨hp.1, by exact Int32.le_refl _⟩
  · have := mem_rng (g := g) (s := s) (nt (g 128 (nt s))) (nt_le (n := 40) (by decide) hp.2)
    rw [nI_nt0 hp.1] at this
    exact this
theorem Iv_join {s age m : Int32} (hm : m = 0 ∨ m = 1) (hI : Iv g) : Iv (rJoin g s age m).2.2 := by
  by_cases r1 : isX g 321 s
  · by_cases r2 : inr age 0 120
    · by_cases r3 : g 125 (nt s) = 0 ∧ full g s ∧ see g s age ∧ g 128 (nt s) < 40
      · rw [show rJoin g s age m = (0, jAt g s m, gJoin g s age m) by unfold rJoin; rw [if_pos r1, if_pos r2, if_pos r3]]
        dsimp only
        obtain ⟨s0, s1⟩ := r1
        obtain ⟨b1, b2, b3, b4, b5, b6, b7, b8, b9, b10, b11, b12, b13, b14, b15, b16⟩ := i_n hI
        have o : ∀ c i, c ≠ 128 → c ≠ 129 → c ≠ 130 → gJoin g s age m c i = g c i := fun c i h1 h2 h3 => join_o ⟨h1, h2, h3⟩
        obtain ⟨-, -, -, -, -, -, -, -, l0, l1⟩ := i_s hI s s0 s1
        obtain ⟨j0, j1⟩ := jAt_rng (g := g) (s := s) (m := m) ⟨l0, l1⟩
        have w : ∀ x, wd (gJoin g s age m) x = wd g x := fun x => by
          unfold wd; rw [o 123 _ (by decide) (by decide) (by decide), o 103 _ (by decide) (by decide) (by decide), o 104 _ (by decide) (by decide) (by decide)]
        have ee : ∀ x, en (gJoin g s age m) x = en g x := fun x => by
          unfold en; rw [o 122 _ (by decide) (by decide) (by decide), o 124 _ (by decide) (by decide) (by decide), o 108 _ (by decide) (by decide) (by decide)]
        refine ⟨⟨?_, ?_, ?_, ?_, ?_, ?_, ?_, ?_, ?_, ?_, ?_, ?_, ?_, ?_⟩, It_of hI.2 (fun c i h => o c i (by omega) (by omega) (by omega)) (fun k k0 k1 h => by rw [o 135 _ (by decide) (by decide) (by decide)] at h; exact h) (fun x x0 x1 => ee x)⟩
        · unfold I_n
          simp only [o 300 _ (by decide) (by decide) (by decide), o 301 _ (by decide) (by decide) (by decide), o 302 _ (by decide) (by decide) (by decide), o 307 _ (by decide) (by decide) (by decide), o 316 _ (by decide) (by decide) (by decide), o 321 _ (by decide) (by decide) (by decide), o 331 _ (by decide) (by decide) (by decide), o 336 _ (by decide) (by decide) (by decide)]
          exact i_n hI
        · unfold I_h
          simp only [o 302 _ (by decide) (by decide) (by decide), o 103 _ (by decide) (by decide) (by decide), o 104 _ (by decide) (by decide) (by decide)]
          exact i_h hI
        · unfold I_hu
          simp only [o 302 _ (by decide) (by decide) (by decide), o 105 _ (by decide) (by decide) (by decide)]
          exact i_hu hI
        · unfold I_f
          simp only [o 307 _ (by decide) (by decide) (by decide), o 108 _ (by decide) (by decide) (by decide), o 109 _ (by decide) (by decide) (by decide), o 110 _ (by decide) (by decide) (by decide), o 111 _ (by decide) (by decide) (by decide), o 112 _ (by decide) (by decide) (by decide), o 113 _ (by decide) (by decide) (by decide), o 114 _ (by decide) (by decide) (by decide)]
          exact i_f hI
        · unfold I_fu
          simp only [o 307 _ (by decide) (by decide) (by decide), o 112 _ (by decide) (by decide) (by decide), o 114 _ (by decide) (by decide) (by decide), o 115 _ (by decide) (by decide) (by decide)]
          exact i_fu hI
        · intro i i0 i1
          rw [o 321 _ (by decide) (by decide) (by decide)] at i1
          have u := i_s hI i i0 i1
          rw [o 122 _ (by decide) (by decide) (by decide), o 123 _ (by decide) (by decide) (by decide), o 124 _ (by decide) (by decide) (by decide), o 125 _ (by decide) (by decide) (by decide), o 307 _ (by decide) (by decide) (by decide), o 302 _ (by decide) (by decide) (by decide), join_8]
          refine ⟨u.1, u.2.1, u.2.2.1, u.2.2.2.1, u.2.2.2.2.1, u.2.2.2.2.2.1, u.2.2.2.2.2.2.1, u.2.2.2.2.2.2.2.1, ?_, ?_⟩
          · split
            · lia
            · exact u.2.2.2.2.2.2.2.2.1
          · split
            · have := r3.2.2.2; lia
            · exact u.2.2.2.2.2.2.2.2.2
        · intro i i0 i1
          rw [o 321 _ (by decide) (by decide) (by decide)] at i0
          rw [o 125 _ (by decide) (by decide) (by decide), join_8, if_neg (fun z => by rw [nt_inj (by lia) s0] at z; lia)]
          exact i_su hI i i0 i1
        · intro i j i0 i1 k0 k1 ne oi oj eh
          rw [o 321 _ (by decide) (by decide) (by decide)] at i1 k1
          unfold on at oi oj
          rw [o 125 _ (by decide) (by decide) (by decide)] at oi oj
          rw [o 123 _ (by decide) (by decide) (by decide), o 123 _ (by decide) (by decide) (by decide)] at eh
          rw [ee, ee, o 124 _ (by decide) (by decide) (by decide), o 124 _ (by decide) (by decide) (by decide)]
          exact i_ov hI i j i0 i1 k0 k1 ne oi oj eh
        · intro x p x0 x1 p0 p1
          rw [w, o 126 _ (by decide) (by decide) (by decide), o 127 _ (by decide) (by decide) (by decide), o 336 _ (by decide) (by decide) (by decide), o 321 _ (by decide) (by decide) (by decide), o 331 _ (by decide) (by decide) (by decide)]
          exact i_pl hI x p x0 x1 p0 p1
        · intro k k0 k1
          rw [o 331 _ (by decide) (by decide) (by decide)] at k1
          rw [w, o 132 _ (by decide) (by decide) (by decide), o 133 _ (by decide) (by decide) (by decide), o 134 _ (by decide) (by decide) (by decide), o 135 _ (by decide) (by decide) (by decide), o 321 _ (by decide) (by decide) (by decide), o 127 _ (by decide) (by decide) (by decide), o 125 _ (by decide) (by decide) (by decide), o 124 _ (by decide) (by decide) (by decide)]
          exact i_o hI k k0 k1
        · intro k k0 k1
          rw [o 331 _ (by decide) (by decide) (by decide)] at k0
          rw [o 135 _ (by decide) (by decide) (by decide)]
          exact i_ou hI k k0 k1
        · intro t t0 t1
          rw [o 336 _ (by decide) (by decide) (by decide)] at t1
          rw [w, o 137 _ (by decide) (by decide) (by decide), o 138 _ (by decide) (by decide) (by decide), o 140 _ (by decide) (by decide) (by decide), o 141 _ (by decide) (by decide) (by decide), o 321 _ (by decide) (by decide) (by decide), o 126 _ (by decide) (by decide) (by decide)]
          exact i_t hI t t0 t1
        · intro t t0 t1
          rw [o 336 _ (by decide) (by decide) (by decide)] at t0
          rw [o 141 _ (by decide) (by decide) (by decide)]
          exact i_tu hI t t0 t1
        · intro x x0 x1 k k0 k1
          rw [o 321 _ (by decide) (by decide) (by decide)] at x1
          rw [join_8] at k1
          obtain ⟨-, -, -, -, -, -, -, -, y0, y1⟩ := i_s hI x x0 x1
          have kb : k < 40 := by split at k1 <;> (have := r3.2.2.2; lia)
          rw [(join_at (g := g) (s := s) (x := x) (k := k) (age := age) (m := m) rfl s0 (by lia) x0 (by lia) k0 kb j0 j1 r3.2.2.2).2]
          split
          · exact hm
          · rename_i n1
            split
            · exact Or.inl rfl
            · rename_i n2
              refine i_l hI x x0 x1 k k0 ?_
              by_cases e : x = s
              · subst e
                rw [if_pos rfl] at k1
                by_cases e2 : k < g 128 (nt x)
                · exact e2
                · exfalso
                  have e3 : k = g 128 (nt x) := by lia
                  by_cases e4 : k = jAt g x m
                  · exact n1 ⟨rfl, e4⟩
                  · exact n2 ⟨rfl, by lia, by lia⟩
              · rw [if_neg (fun z => e ((nt_inj x0 s0).mp z))] at k1
                exact k1
      · rw [show rJoin g s age m = (2, 0, g) by unfold rJoin; rw [if_pos r1, if_pos r2, if_neg r3]]; exact hI
    · rw [show rJoin g s age m = (1, 0, g) by unfold rJoin; rw [if_pos r1, if_neg r2]]; exact hI
  · rw [show rJoin g s age m = (3, 0, g) from if_neg r1]; exact hI
theorem Iv_show {f h t : Int32} (hI : Iv g) : Iv (rShow g f h t).2.2 := by
  by_cases r1 : isX g 307 f ∧ isX g 302 h
  · by_cases r2 : inr t (g 300 0 + 1) 100000
    · by_cases r3 : g 321 0 = 30
      · rw [show rShow g f h t = (2, 0, g) by unfold rShow; rw [if_pos r1, if_pos r2, if_pos r3]]; exact hI
      · by_cases r4 : rsn g f h t = 0
        · rw [show rShow g f h t = (0, g 321 0, gShow g f h t) by unfold rShow; rw [if_pos r1, if_pos r2, if_neg r3, if_pos r4]]
          dsimp only
          have nm : ¬ Mts g f h t := fun z => by
            by_cases a : Opn g f h t
            · rw [rsn2 a z] at r4; exact absurd r4 (by decide)
            · rw [rsn1 a] at r4; exact absurd r4 (by decide)
          obtain ⟨⟨f0, f1⟩, h0, h1⟩ := r1
          obtain ⟨t0, t1⟩ := r2
          obtain ⟨b1, b2, b3, b4, b5, b6, b7, b8, b9, b10, b11, b12, b13, b14, b15, b16⟩ := i_n hI
          have q : ∀ c i, c ≠ 321 → i ≠ nt (g 321 0) → gShow g f h t c i = g c i := fun c i h1 h3 => by
            unfold gShow
            rw [gu_ne (Or.inl h1), gu_ne (Or.inr h3), gu_ne (Or.inr h3), gu_ne (Or.inr h3)]
          have q0 : ∀ c i, c ≠ 321 → c ≠ 122 → c ≠ 123 → c ≠ 124 → gShow g f h t c i = g c i := fun c i h1 h2 h3 h4 => by
            unfold gShow
            rw [gu_ne (Or.inl h1), gu_ne (Or.inl h4), gu_ne (Or.inl h3), gu_ne (Or.inl h2)]
          have q1 : gShow g f h t 321 0 = g 321 0 + 1 := by unfold gShow; rw [gu_at]
          have y2 : gShow g f h t 122 (nt (g 321 0)) = f := by unfold gShow; rw [gu_ne (by simp), gu_ne (by simp), gu_ne (by simp), gu_at]
          have y3 : gShow g f h t 123 (nt (g 321 0)) = h := by unfold gShow; rw [gu_ne (by simp), gu_ne (by simp), gu_at]
          have y4 : gShow g f h t 124 (nt (g 321 0)) = t := by unfold gShow; rw [gu_ne (by simp), gu_at]
          obtain ⟨y5, y8⟩ := i_su hI (g 321 0) (by exact Int32.le_refl _) (by lia)
          have old : ∀ k : Int32, 0 ≤ k → k < g 321 0 → nt k ≠ nt (g 321 0) := fun k k0 k1 z => by rw [nt_inj k0 b11] at z; lia
          have w : ∀ x : Int32, 0 ≤ x → x < g 321 0 → wd (gShow g f h t) x = wd g x := fun x x0 x1 => by
            unfold wd
            rw [q 123 _ (by decide) (old x x0 x1)]
            rfl
          have ee : ∀ x : Int32, 0 ≤ x → x < g 321 0 → en (gShow g f h t) x = en g x := fun x x0 x1 => by
            unfold en
            rw [q 122 _ (by decide) (old x x0 x1), q 124 _ (by decide) (old x x0 x1)]
            rfl
          have en' : en (gShow g f h t) (g 321 0) = t + g 108 (nt f) := by
            unfold en
            rw [y2, y4]
            rfl
          obtain ⟨l0, l1, -⟩ := i_f hI f f0 f1
          obtain ⟨a1, a2, a3, a4, a5, a6, a7, a8, a9, a10, a11, a12, a13, a14⟩ := id hI.1
          have meets : ∀ i : Int32, 0 ≤ i → i < g 321 0 → on g i → g 123 (nt i) = h → en g i + 20 ≤ t ∨ t + g 108 (nt f) + 20 ≤ g 124 (nt i) := fun i i0 i1 oi ei => by
            by_cases z : t < en g i + 20
            · by_cases z2 : g 124 (nt i) < t + g 108 (nt f) + 20
              · exact absurd ⟨i, i0, i1, oi, ei, z, z2⟩ nm
              · exact Or.inr (by lia)
            · exact Or.inl (by lia)
          refine ⟨⟨⟨b1, b2, b3, b4, b5, b6, b7, b8, b9, b10, by rw [q1]; lia, by rw [q1]; lia, b13, b14, b15, b16⟩, a2, a3, a4, a5, ?_, ?_, ?_, ?_, ?_, a11, ?_, a13, ?_⟩, ?_, ?_⟩
          · intro i i0 i1
            rw [q1] at i1
            rcases i32_lt1 i1 b11 (by lia) with z | z
            · have ne := old i i0 z
              rw [q 122 _ (by decide) ne, q 123 _ (by decide) ne, q 124 _ (by decide) ne]
              exact a6 i i0 z
            · rw [z, y2, y3, y4, q0 125 _ (by decide) (by decide) (by decide) (by decide), q0 128 _ (by decide) (by decide) (by decide) (by decide), y5, y8]
              exact ⟨f0, f1, h0, h1, by lia, by lia, by decide, by decide, by decide, by decide⟩
          · intro i i0 i1
            rw [q1] at i0
            exact a7 i (by lia) i1
          · intro i j i0 i1 j0 j1 ne oi oj eh
            rw [q1] at i1 j1
            unfold on at oi oj
            rw [q0 125 _ (by decide) (by decide) (by decide) (by decide)] at oi oj
            rcases i32_lt1 i1 b11 (by lia) with zi | zi
            · rcases i32_lt1 j1 b11 (by lia) with zj | zj
              · rw [q 123 _ (by decide) (old i i0 zi), q 123 _ (by decide) (old j j0 zj)] at eh
                rw [ee i i0 zi, ee j j0 zj, q 124 _ (by decide) (old i i0 zi), q 124 _ (by decide) (old j j0 zj)]
                exact a8 i j i0 zi j0 zj ne oi oj eh
              · rw [zj, y3, q 123 _ (by decide) (old i i0 zi)] at eh
                rw [zj, en', y4, ee i i0 zi, q 124 _ (by decide) (old i i0 zi)]
                exact meets i i0 zi oi eh
            · rcases i32_lt1 j1 b11 (by lia) with zj | zj
              · rw [zi, y3, q 123 _ (by decide) (old j j0 zj)] at eh
                rw [zi, en', y4, ee j j0 zj, q 124 _ (by decide) (old j j0 zj)]
                exact (meets j j0 zj oj eh.symm).symm
              · exact absurd (zi.trans zj.symm) ne
          · intro s p s0 s1 p0 p1
            obtain ⟨z1, z2⟩ := a9 s p s0 s1 p0 p1
            rw [q0 126 _ (by decide) (by decide) (by decide) (by decide), q0 127 _ (by decide) (by decide) (by decide) (by decide), q0 336 _ (by decide) (by decide) (by decide) (by decide), q0 331 _ (by decide) (by decide) (by decide) (by decide), q1]
            exact ⟨z1.imp_right (fun z => ⟨z.1, z.2.1, z.2.2.1, by have := z.2.2.2.1; lia, by rw [w s s0 z.2.2.2.1]; exact z.2.2.2.2⟩), z2.imp_right (fun z => ⟨z.1, z.2.1, by have := z.2.2.1; lia, by rw [w s s0 z.2.2.1]; exact z.2.2.2⟩)⟩
          · intro k k0 k1
            have u := a10 k k0 k1
            rw [q0 132 _ (by decide) (by decide) (by decide) (by decide), q0 133 _ (by decide) (by decide) (by decide) (by decide), q0 134 _ (by decide) (by decide) (by decide) (by decide), q0 135 _ (by decide) (by decide) (by decide) (by decide), q0 125 _ (by decide) (by decide) (by decide) (by decide), q0 127 _ (by decide) (by decide) (by decide) (by decide), q1, w _ u.1 u.2.1, q 124 _ (by decide) (old _ u.1 u.2.1)]
            exact ⟨u.1, by have := u.2.1; lia, u.2.2⟩
          · intro k k0 k1
            have u := a12 k k0 k1
            rw [q0 137 _ (by decide) (by decide) (by decide) (by decide), q0 138 _ (by decide) (by decide) (by decide) (by decide), q0 140 _ (by decide) (by decide) (by decide) (by decide), q0 141 _ (by decide) (by decide) (by decide) (by decide), q0 126 _ (by decide) (by decide) (by decide) (by decide), q1, w _ u.1 u.2.1]
            exact ⟨u.1, by have := u.2.1; lia, u.2.2⟩
          · intro s s0 s1 k k0 k1
            rw [q1] at s1
            rw [q0 128 _ (by decide) (by decide) (by decide) (by decide)] at k1
            rw [q0 130 _ (by decide) (by decide) (by decide) (by decide)]
            rcases i32_lt1 s1 b11 (by lia) with z | z
            · exact a14 s s0 z k k0 k1
            · rw [z, y8] at k1; lia
          · exact hI.2.1
          · intro s s0 s1
            rw [q1] at s1
            rw [q0 125 _ (by decide) (by decide) (by decide) (by decide), q0 300 _ (by decide) (by decide) (by decide) (by decide)]
            rcases i32_lt1 s1 b11 (by lia) with z | z
            · rw [q 124 _ (by decide) (old s s0 z), ee s s0 z]
              exact hI.2.2 s s0 z
            · rw [z, y4, y5]
              exact ⟨fun _ => by lia, fun u => absurd u (by decide)⟩
        · rw [show rShow g f h t = (2, 0, g) by unfold rShow; rw [if_pos r1, if_pos r2, if_neg r3, if_neg r4]]; exact hI
    · rw [show rShow g f h t = (1, 0, g) by unfold rShow; rw [if_pos r1, if_neg r2]]; exact hI
  · rw [show rShow g f h t = (3, 0, g) from if_neg r1]; exact hI
end KK4
