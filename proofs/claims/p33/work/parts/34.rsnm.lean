/-! whether a show fits: the reference's loop; show, fits, first on both sides -/
section R2
variable {g : Gm} {S : Sg} {f h t : Int32} {Q : Nat → Int32 → Sg → Prop}
abbrev opK (g : Gm) (f h t k : Int32) : Prop := g 117 (nt k) = f ∧ g 118 (nt k) = h ∧ g 119 (nt k) ≤ t ∧ t + g 108 (nt f) ≤ g 120 (nt k)
def upt (P : Int32 → Prop) (x : Int32) : Prop := ∃ k : Int32, 0 ≤ k ∧ k < x ∧ P k
theorem upt_s {P : Int32 → Prop} {x : Int32} (h0 : 0 ≤ x) (h1 : x ≤ 1000) : upt P (x + 1) ↔ upt P x ∨ P x := by
  constructor
  · rintro ⟨k, k1, k2, k3⟩
    rcases i32_lt1 k2 h0 h1 with e | e
    · exact Or.inl ⟨k, k1, e, k3⟩
    · rw [← e]; exact Or.inr k3
  · rintro (⟨k, k1, k2, k3⟩ | q)
    · exact ⟨k, k1, by lia, k3⟩
    · exact ⟨x, h0, by lia, q⟩
/-- a flag: 1 if P, else 0 -/
def flg (v : Int32) (P : Prop) : Prop := (v = 1 ∧ P) ∨ (v = 0 ∧ ¬ P)
theorem flg_0 {v : Int32} {P : Prop} (h : flg v P) (hv : v = 0) : ¬ P := by
  rcases h with ⟨a, -⟩ | ⟨-, b⟩
  · rw [hv] at a; exact absurd a (by decide)
  · exact b
theorem flg_1 {v : Int32} {P : Prop} (h : flg v P) (hv : ¬ v = 0) : P := by
  rcases h with ⟨-, a⟩ | ⟨b, -⟩
  · exact a
  · exact absurd b hv
end R2
