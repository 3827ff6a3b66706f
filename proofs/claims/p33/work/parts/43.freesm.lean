/-! the reference: sells, frees, ends; letGo, giveBack, buy, sell -/
/-- a line that has moved up by one in its first m places -/
def gShp (g : Gm) (s : Int32) (m : Nat) : Gm := fun c i => if c = 128 ∧ i = nt s then g 128 (nt s) - 1 else if (c = 129 ∨ c = 130) ∧ nt (40 * s) ≤ i ∧ i < nt (40 * s) + m then g c (i + 1) else g c i
theorem shp_0 {g : Gm} {s : Int32} : gShp g s 0 = gu g 128 (nt s) (g 128 (nt s) - 1) := by
  funext c i
  unfold gShp gu
  by_cases e : c = 128 ∧ i = nt s
  · rw [if_pos e, if_pos e]
  · rw [if_neg e, if_neg e, if_neg (fun z => by omega)]
theorem shp_end {g : Gm} {s : Int32} : gShp g s (nt (g 128 (nt s) - 1)) = gShift g s := rfl
theorem shp_step {g : Gm} {s : Int32} {m : Nat} : gu (gu (gShp g s m) 129 (nt (40 * s) + m) (gShp g s m 129 (nt (40 * s) + m + 1))) 130 (nt (40 * s) + m) (gShp g s m 130 (nt (40 * s) + m + 1)) = gShp g s (m + 1) := by
  have h9 : ∀ c, c = 129 ∨ c = 130 → gShp g s m c (nt (40 * s) + m + 1) = g c (nt (40 * s) + m + 1) := fun c hc => by
    unfold gShp
    rw [if_neg (by omega), if_neg (fun z => by omega)]
  rw [h9 129 (Or.inl rfl), h9 130 (Or.inr rfl)]
  funext c i
  by_cases e1 : c = 130 ∧ i = nt (40 * s) + m
  · rw [e1.1, e1.2, gu_at]
    unfold gShp
    rw [if_neg (by omega), if_pos (by omega)]
  · rw [gu_ne (by by_cases z : c = 130; exact Or.inr (fun u => e1 ⟨z, u⟩); exact Or.inl z)]
    by_cases e2 : c = 129 ∧ i = nt (40 * s) + m
    · rw [e2.1, e2.2, gu_at]
      unfold gShp
      rw [if_neg (by omega), if_pos (by omega)]
    · rw [gu_ne (by by_cases z : c = 129; exact Or.inr (fun u => e2 ⟨z, u⟩); exact Or.inl z)]
      unfold gShp
      by_cases e3 : c = 128 ∧ i = nt s
      · rw [if_pos e3, if_pos e3]
      · rw [if_neg e3, if_neg e3]
        by_cases e4 : (c = 129 ∨ c = 130) ∧ nt (40 * s) ≤ i ∧ i < nt (40 * s) + m
        · rw [if_pos e4, if_pos (by omega)]
        · rw [if_neg e4, if_neg (by omega)]
section FM
variable {g : Gm} {S0 S : Sg} {Q : Nat → Int32 → Sg → Prop}
end FM
