/-! join: the reference -/
section JM
variable {n : Nat} {g : Gm} {S S0 : Sg} {Q : Nat → Int32 → Sg → Prop}
/-- a line of which all behind the place lo have moved down by one -/
def gJp (g : Gm) (s lo : Int32) : Gm := fun c i => if c = 129 ∧ nt (40 * s + lo) < i ∧ i ≤ nt (40 * s + g 128 (nt s)) then g 129 (i - 1) else if c = 130 ∧ nt (40 * s + lo) < i ∧ i ≤ nt (40 * s + g 128 (nt s)) then 0 else g c i
theorem jp_0 {s : Int32} : gJp g s (g 128 (nt s)) = g := by
  funext c i
  unfold gJp
  rw [if_neg (by omega), if_neg (by omega)]
theorem jp_step {s lo : Int32} (h0 : 0 ≤ s) (h1 : s < 30) (l0 : 1 ≤ lo) (l1 : lo ≤ g 128 (nt s)) (l2 : g 128 (nt s) ≤ 40) : gu (gu (gJp g s lo) 129 (nt (40 * s + lo)) (g 129 (nt (40 * s + lo - 1)))) 130 (nt (40 * s + lo)) 0 = gJp g s (lo - 1) := by
  have e1 : nt (40 * s + lo) = nt (40 * s + (lo - 1)) + 1 := by
    have := ntS (x := 40 * s + (lo - 1)) (by lia) (by lia)
    rw [show 40 * s + (lo - 1) + 1 = 40 * s + lo by lia] at this
    exact this
  have e2 : nt (40 * s + lo - 1) = nt (40 * s + (lo - 1)) := by rw [show 40 * s + lo - 1 = 40 * s + (lo - 1) by lia]
  have e3 : nt (40 * s + lo) ≤ nt (40 * s + g 128 (nt s)) := (ntle (by lia) (by lia)).mpr (by lia)
  rw [e2]
  funext c i
  by_cases a : c = 130 ∧ i = nt (40 * s + lo)
  · rw [a.1, a.2, gu_at]
    unfold gJp
    rw [if_neg (by omega), if_pos (by omega)]
  · rw [gu_ne (by by_cases z : c = 130; exact Or.inr (fun u => a ⟨z, u⟩); exact Or.inl z)]
    by_cases b : c = 129 ∧ i = nt (40 * s + lo)
    · rw [b.1, b.2, gu_at]
      unfold gJp
      rw [if_pos (by omega), e1, Nat.add_sub_cancel]
    · rw [gu_ne (by by_cases z : c = 129; exact Or.inr (fun u => b ⟨z, u⟩); exact Or.inl z)]
      unfold gJp
      by_cases d : c = 129 ∧ nt (40 * s + lo) < i ∧ i ≤ nt (40 * s + g 128 (nt s))
      · rw [if_pos d, if_pos (by omega)]
      · rw [if_neg d]
        by_cases f : c = 130 ∧ nt (40 * s + lo) < i ∧ i ≤ nt (40 * s + g 128 (nt s))
        · rw [if_pos f, if_neg (by omega), if_pos (by omega)]
        · rw [if_neg f, if_neg (by omega), if_neg (by omega)]
theorem jp_end {s age m : Int32} : gu (gu (gu (gJp g s (jAt g s m)) 129 (nt (40 * s + jAt g s m)) age) 130 (nt (40 * s + jAt g s m)) m) 128 (nt s) (g 128 (nt s) + 1) = gJoin g s age m := by
  funext c i
  unfold gJoin
  by_cases a : c = 128 ∧ i = nt s
  · rw [if_pos a, a.1, a.2, gu_at]
  · rw [if_neg a, gu_ne (by by_cases z : c = 128; exact Or.inr (fun u => a ⟨z, u⟩); exact Or.inl z)]
    by_cases b : c = 130 ∧ i = nt (40 * s + jAt g s m)
    · rw [if_neg (by omega), if_pos b, b.1, b.2, gu_at]
    · rw [gu_ne (by by_cases z : c = 130; exact Or.inr (fun u => b ⟨z, u⟩); exact Or.inl z)]
      by_cases d : c = 129 ∧ i = nt (40 * s + jAt g s m)
      · rw [if_pos d, d.1, d.2, gu_at]
      · rw [gu_ne (by by_cases z : c = 129; exact Or.inr (fun u => d ⟨z, u⟩); exact Or.inl z), if_neg d, if_neg b]
        rfl
end JM
