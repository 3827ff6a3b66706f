/-! a new object: the reference's columns at the start -/
def g0 : Gm := fun c i => if c = 301 ∧ i = 0 then 10 else if (c = 126 ∨ c = 127) ∧ i < 1440 then -1 else 0
theorem g0_z {c i : Nat} (h1 : c ≠ 301) (h2 : c ≠ 126) (h3 : c ≠ 127) : g0 c i = 0 := by
  unfold g0
  rw [if_neg (fun q => h1 q.1), if_neg (fun q => q.1.elim h2 h3)]
theorem g0_p {c i : Nat} (h : c = 126 ∨ c = 127) (hi : i < 1440) : g0 c i = -1 := by
  unfold g0
  rw [if_neg (fun q => by omega), if_pos ⟨h, hi⟩]
theorem Iv_0 : Iv g0 := by
  have e302 : g0 302 0 = 0 := g0_z (by decide) (by decide) (by decide)
  have e307 : g0 307 0 = 0 := g0_z (by decide) (by decide) (by decide)
  have e316 : g0 316 0 = 0 := g0_z (by decide) (by decide) (by decide)
  have e321 : g0 321 0 = 0 := g0_z (by decide) (by decide) (by decide)
  have e331 : g0 331 0 = 0 := g0_z (by decide) (by decide) (by decide)
  have e336 : g0 336 0 = 0 := g0_z (by decide) (by decide) (by decide)
  have e300 : g0 300 0 = 0 := g0_z (by decide) (by decide) (by decide)
  have e301 : g0 301 0 = 10 := rfl
  refine ⟨⟨?_, ?_, ?_, ?_, ?_, ?_, ?_, ?_, ?_, ?_, ?_, ?_, ?_, ?_⟩, ?_, ?_⟩
  · unfold I_n
    rw [e300, e301, e302, e307, e316, e321, e331, e336]
    decide
  · intro i i0 i1; rw [e302] at i1; lia
  · intro i i0 i1; exact g0_z (by decide) (by decide) (by decide)
  · intro i i0 i1; rw [e307] at i1; lia
  · intro i i0 i1; exact ⟨g0_z (by decide) (by decide) (by decide), g0_z (by decide) (by decide) (by decide), g0_z (by decide) (by decide) (by decide)⟩
  · intro i i0 i1; rw [e321] at i1; lia
  · intro i i0 i1; exact ⟨g0_z (by decide) (by decide) (by decide), g0_z (by decide) (by decide) (by decide)⟩
  · intro i j i0 i1; rw [e321] at i1; lia
  · intro s p s0 s1 p0 p1
    have h : nt (48 * s + p) < 1440 := by
      have := (ntlt (x := 48 * s + p) (y := 1440) (by lia) (by decide)).mpr (by lia)
      exact this
    exact ⟨Or.inl (g0_p (Or.inl rfl) h), Or.inl (g0_p (Or.inr rfl) h)⟩
  · intro i i0 i1; rw [e331] at i1; lia
  · intro i i0 i1; exact g0_z (by decide) (by decide) (by decide)
  · intro i i0 i1; rw [e336] at i1; lia
  · intro i i0 i1; exact g0_z (by decide) (by decide) (by decide)
  · intro i i0 i1; rw [e321] at i1; lia
  · intro i i0 i1; rw [e331] at i1; lia
  · intro i i0 i1; rw [e321] at i1; lia
/-- from a state whose columns are those of a new object -/
theorem Rel_0 {S : Sg} (h1 : ∀ c i, mc c → S.1 c i = g0 c i) (h2 : ∀ q ∈ scT, S.1 q.1 q.2.1 = g0 q.2.2 0) (h3 : ∀ j, j < 6 → S.1 13 j = nE ∨ ¬ S.1 13 j < 0) (h4 : S.2.1 ≤ 100) (h5 : S.2.2 ≤ 20000) : Rel 0 S := by
  refine ⟨g0, Iv_0, ⟨?_, ?_, h2, h3, ?_, ?_, ?_, ?_⟩, h1, by constructor <;> omega⟩
  · intro q hq i i0 i1
    have z : ∀ q ∈ colT, q.2.2 ≠ 301 ∧ q.2.2 ≠ 126 ∧ q.2.2 ≠ 127 := by decide
    rw [g0_z (z q hq).1 (z q hq).2.1 (z q hq).2.2] at i1; lia
  · intro q hq i i0 i1
    have z : ∀ q ∈ idT, q.2 ≠ 301 ∧ q.2 ≠ 126 ∧ q.2 ≠ 127 := by decide
    rw [g0_z (z q hq).1 (z q hq).2.1 (z q hq).2.2] at i1; lia
  · intro s s0 s1; rw [g0_z (by decide) (by decide) (by decide)] at s1; lia
  · intro s s0 s1; rw [g0_z (by decide) (by decide) (by decide)] at s1; lia
  · intro s s0 s1; rw [g0_z (by decide) (by decide) (by decide)] at s1; lia
  · intro s p s0 s1; rw [g0_z (by decide) (by decide) (by decide)] at s1; lia
