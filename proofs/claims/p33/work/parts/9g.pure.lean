/-! a new object: what the constructor makes of nothing; the law's own arrays -/
def Z0 : Sg := (fun c _ => if c = 13 then -1 else 0, 0, 0)
section PC
variable {S T0 : Sg} {Q : Nat → Int32 → Sg → Prop}
/-- behind j lists of the class's constructor -/
def CI (j : Nat) (S : Sg) : Prop := (∀ k, k ≠ 1 → S.1 10 k = if k = 0 then 1 else 0) ∧ S.1 10 1 = nI j ∧ (∀ i, S.1 12 i = 0) ∧ (∀ i, i < j → S.1 13 i = nE) ∧ (∀ i, i < j → S.1 i 0 = nI i) ∧ (∀ c i, 14 ≤ c → S.1 c i = 0) ∧ S.2 = (1 + j, 8 + 3 * j)
theorem CI_0 : CI 0 (nu Z0 0 8 fdP0) := by
  have z : ∀ d ∈ fdP0, d.2.1 < 8 := by decide
  refine ⟨fun k _ => ?_, by decide, fun i => ?_, fun i h => absurd h (Nat.not_lt_zero _), fun i h => absurd h (Nat.not_lt_zero _), fun c i h => ?_, rfl⟩
  · rw [nu_10]
    by_cases hk : k = 0
    · rw [if_pos hk, if_pos hk]; decide
    · rw [if_neg hk, if_neg hk]; rfl
  · rw [nu_ne (by decide) (Or.inr fun d hd _ e => by have := z d hd; omega)]; rfl
  · rw [nu_ne (by omega) (Or.inr fun d hd _ e => by have := z d hd; omega)]
    show (if c = 13 then (-1 : Int32) else 0) = 0
    rw [if_neg (by omega)]
theorem ci_step {j : Nat} (hj : j < 6) (h : CI j S) : (S.2.1 + 1 ≤ nB1 ∧ S.2.2 + 3 ≤ nB2) ∧ nI j = S.1 10 1 ∧ (nu S 1 3 fdList).1 12 (nt (nI j)) = 0 ∧ ¬ nI j < 0 ∧ CI (j + 1) (su (su (su (nu S 1 3 fdList) 11 (nt (nI j)) 0) 13 (nt (nI j)) nE) j 0 (nI j)) := by
  obtain ⟨h1, h2, h3, h4, h5, h6, h7⟩ := h
  have ej : nt (nI j) = j := nt_nI (by omega)
  have en : nt (S.1 10 1) = j := by rw [h2, ej]
  rw [ej]
  have b1 : S.2.1 = 1 + j := by rw [h7]
  have b2 : S.2.2 = 8 + 3 * j := by rw [h7]
  have x12 : ∀ i, (nu S 1 3 fdList).1 12 i = 0 := fun i => by
    by_cases hi : i = nt (S.1 10 1)
    · rw [hi]; exact nu_0 (by decide) (by decide)
    · rw [nu_ne (by decide) (Or.inl hi)]; exact h3 i
  have z : ∀ d ∈ fdList, 11 ≤ d.2.1 ∧ d.2.1 ≤ 13 := by decide
  refine ⟨⟨by rw [b1]; unfold nB1; omega, by rw [b2]; unfold nB2; omega⟩, h2.symm, x12 j, nI_pos (by omega), fun k hk => ?_, ?_, fun i => ?_, fun i hi => ?_, fun i hi => ?_, fun c i hc => ?_, ?_⟩
  · rw [su_ne (c' := 10) (Or.inl (by omega)), su_ne (c' := 10) (Or.inl (by decide)), su_ne (c' := 10) (Or.inl (by decide)), nu_10, if_neg hk]; exact h1 k hk
  · rw [su_ne (c' := 10) (Or.inl (by omega)), su_ne (c' := 10) (Or.inl (by decide)), su_ne (c' := 10) (Or.inl (by decide)), nu_10, if_pos rfl, h2]; exact (nI_succ j).symm
  · rw [su_ne (c' := 12) (Or.inl (by omega)), su_ne (c' := 12) (Or.inl (by decide)), su_ne (c' := 12) (Or.inl (by decide))]; exact x12 i
  · rw [su_ne (c' := 13) (Or.inl (by omega))]
    by_cases hi2 : i = j
    · rw [hi2]; exact su_at
    · rw [su_ne (c' := 13) (Or.inr hi2), su_ne (c' := 13) (Or.inl (by decide)), nu_ne (by decide) (Or.inl (by rw [en]; exact hi2))]; exact h4 i (by omega)
  · by_cases hi2 : i = j
    · rw [hi2]; exact su_at
    · rw [su_ne (c' := i) (Or.inl hi2), su_ne (c' := i) (Or.inl (by omega)), su_ne (c' := i) (Or.inl (by omega)), nu_ne (c := i) (by omega) (Or.inr fun d hd _ e => by have := z d hd; omega)]; exact h5 i (by omega)
  · rw [su_ne (c' := c) (Or.inl (by omega)), su_ne (c' := c) (Or.inl (by omega)), su_ne (c' := c) (Or.inl (by omega)), nu_ne (c := c) (by omega) (Or.inr fun d hd _ e => by have := z d hd; omega)]; exact h6 c i hc
  · exact Prod.ext (by show S.2.1 + 1 = 1 + (j + 1); omega) (by show S.2.2 + 3 = 8 + 3 * (j + 1); omega)
/-- behind the class's constructor -/
def CE (S : Sg) : Prop := (∀ k, S.1 10 k = if k = 0 then 1 else if k = 1 then 6 else 0) ∧ (∀ i, S.1 12 i = 0) ∧ (∀ i, i < 6 → S.1 13 i = nE) ∧ (∀ i, i < 6 → S.1 i 0 = nI i) ∧ (∀ c i, 14 ≤ c → S.1 c i = 0) ∧ S.2 = (7, 26) ∧ S.1 6 0 = 0 ∧ S.1 7 0 = 10
theorem CE_of (h : CI 6 S) : CE (su (su S 6 0 0) 7 0 10) := by
  obtain ⟨h1, h2, h3, h4, h5, h6, h7⟩ := h
  refine ⟨fun k => ?_, fun i => ?_, fun i hi => ?_, fun i hi => ?_, fun c i hc => ?_, h7, ?_, su_at⟩
  · rw [su_ne (c' := 10) (Or.inl (by decide)), su_ne (c' := 10) (Or.inl (by decide))]
    by_cases hk : k = 1
    · rw [hk, h2]; decide
    · rw [h1 k hk, if_neg hk]
  · rw [su_ne (c' := 12) (Or.inl (by decide)), su_ne (c' := 12) (Or.inl (by decide))]; exact h3 i
  · rw [su_ne (c' := 13) (Or.inl (by decide)), su_ne (c' := 13) (Or.inl (by decide))]; exact h4 i hi
  · rw [su_ne (c' := i) (Or.inl (by omega)), su_ne (c' := i) (Or.inl (by omega))]; exact h5 i hi
  · rw [su_ne (c' := c) (Or.inl (by omega)), su_ne (c' := c) (Or.inl (by omega))]; exact h6 c i hc
  · rw [su_ne (c' := 6) (Or.inl (by decide))]; exact su_at
theorem ci_go {j : Nat} (hj : j < 6) (h : CI j S) {K : Sg → Prop} (k : ∀ T, CI (j + 1) T → K T) : (S.2.1 + 1 ≤ nB1 ∧ S.2.2 + 3 ≤ nB2) ∧ (∀ v, v = S.1 10 1 → ∀ S1, S1 = nu S 1 3 fdList → w_arI v S1 (fun k5 _ S3 => (k5 = 0 → (¬ v < 0 ∧ (∀ S6, S6 = su S3 j 0 v → K S6))) ∧ (¬ k5 = 0 → Q k5 0 S3))) := by
  obtain ⟨b, e, z, q, h1⟩ := ci_step hj h
  refine And.intro b (fun v ev S1 e1 => ?_)
  obtain rfl : v = nI j := ev.trans e.symm
  subst e1
  refine And.intro z (And.intro (fun _ => And.intro q (fun S6 e6 => ?_)) (fun r => absurd rfl r))
  exact k S6 (e6 ▸ h1)
theorem init_c (h : CI 0 S) (k : ∀ T, CE T → Q 0 0 T) : w_X7_init S Q := by
  unfold w_X7_init
  refine ci_go (j := 0) (by decide) h (fun S h => ?_)
  refine ci_go (j := 1) (by decide) h (fun S h => ?_)
  refine ci_go (j := 2) (by decide) h (fun S h => ?_)
  refine ci_go (j := 3) (by decide) h (fun S h => ?_)
  refine ci_go (j := 4) (by decide) h (fun S h => ?_)
  refine ci_go (j := 5) (by decide) h (fun S h => ?_)
  intro S7 e7 S8 e8
  subst e7 e8
  exact k _ (CE_of h)
/-- behind the law's arrays below j -/
def AE (j : Nat) (S : Sg) : Prop := (∀ k, S.1 10 k = if k = 0 then 1 else if k = 1 then 6 else 0) ∧ (∀ i, S.1 12 i = 0) ∧ (∀ i, i < 6 → S.1 13 i = nE) ∧ (∀ i, i < 6 → S.1 i 0 = nI i) ∧ S.1 6 0 = 0 ∧ S.1 7 0 = 10 ∧ (∀ c i, 16 ≤ c → S.1 c i = 0) ∧ (∀ i, j ≤ i → S.1 15 i = 0) ∧ S.2.1 ≤ 10 + j ∧ S.2.2 ≤ 30 + 70 * j
theorem AE_3 (h : CE S) : AE 3 S := by
  obtain ⟨h1, h2, h3, h4, h5, h6, h7, h8⟩ := h
  exact ⟨h1, h2, h3, h4, h7, h8, fun c i hc => h5 c i (by omega), fun i _ => h5 15 i (by decide), by rw [h6]; decide, by rw [h6]; decide⟩
theorem mLen_b (j : Nat) : mLen j ≤ 64 := by unfold mLen; split; decide; split; decide; split; decide; split; decide; split; decide; split; decide; split; decide; split; decide; split <;> decide
theorem ae_go {j : Nat} (h3 : 3 ≤ j) (hj : j < 13) (h : AE j S) : (S.1 15 j ≠ 1 ∧ S.2.1 + 1 ≤ nB1 ∧ S.2.2 + mLen j ≤ nB2) ∧ AE (j + 1) (nmd S j) := by
  obtain ⟨a1, a2, a3, a4, a5, a6, a7, a8, a9, a10⟩ := h
  have hm := mLen_b j
  refine ⟨⟨by rw [a8 j (Nat.le_refl _)]; decide, by unfold nB1; omega, by unfold nB2; omega⟩, fun k => ?_, fun i => ?_, fun i hi => ?_, fun i hi => ?_, ?_, ?_, fun c i hc => ?_, fun i hi => ?_, ?_, ?_⟩
  · rw [nmd_ne (c := 10) (Or.inl (by decide)) (by omega)]; exact a1 k
  · rw [nmd_ne (c := 12) (Or.inl (by decide)) (by omega)]; exact a2 i
  · rw [nmd_ne (c := 13) (Or.inl (by decide)) (by omega)]; exact a3 i hi
  · rw [nmd_ne (c := i) (Or.inl (by omega)) (by omega)]; exact a4 i hi
  · rw [nmd_ne (c := 6) (Or.inl (by decide)) (by omega)]; exact a5
  · rw [nmd_ne (c := 7) (Or.inl (by decide)) (by omega)]; exact a6
  · show (if c = 15 ∧ i = j then (1 : Int32) else if c = 100 + j then 0 else S.1 c i) = 0
    rw [if_neg (by omega), a7 c i hc]
    split <;> rfl
  · rw [nmd_ne (c := 15) (Or.inr (by omega)) (by omega)]; exact a8 i (by omega)
  · show S.2.1 + 1 ≤ 10 + (j + 1)
    omega
  · show S.2.2 + mLen j ≤ 30 + 70 * (j + 1)
    omega
theorem RA_AE (h : AE 13 S) {T : Sg} (e : T = su S 112 (nt 1) 10) : RA 0 0 g0 T := by
  obtain ⟨a1, a2, a3, a4, a5, a6, a7, a8, a9, a10⟩ := h
  subst e
  have lo : ∀ c i, c ≠ 112 → (su S 112 (nt 1) 10).1 c i = S.1 c i := fun c i hc => su_ne (Or.inl hc)
  refine RA_0 (fun c i h1 h2 => ?_) (fun q hq => ?_) (fun j hj => Or.inl (by rw [lo 13 j (by decide)]; exact a3 j hj)) (Nat.le_trans a9 (by decide)) (Nat.le_trans a10 (by decide))
  · show (if c = 112 ∧ i = nt 1 then (10 : Int32) else S.1 c i) = _
    rw [a7 c i (by omega)]
  · have z : ∀ q ∈ scT, q.1 ≠ 112 ∧ ((q.1 = 12 ∨ (q.1 = 10 ∧ 3 ≤ q.2.1 ∧ q.2.1 ≤ 11) ∨ (q.1 = 6 ∧ q.2.1 = 0)) ∧ (q.2.2 ≠ 301 ∧ q.2.2 ≠ 126 ∧ q.2.2 ≠ 127) ∨ (q.1 = 7 ∧ q.2.1 = 0 ∧ q.2.2 = 301)) := by decide
    obtain ⟨z1, z2⟩ := z q hq
    rw [lo _ _ z1]
    rcases z2 with ⟨a, b1, b2, b3⟩ | ⟨a, b, d⟩
    · rw [g0_z b1 b2 b3]
      rcases a with a | ⟨a, c1, c2⟩ | ⟨a, c1⟩
      · rw [a]; exact a2 _
      · rw [a, a1, if_neg (by omega), if_neg (by omega)]
      · rw [a, c1]; exact a5
    · rw [a, b, d, a6]; rfl
end PC
