/-! a new object of both: what the constructors make of nothing (mk73.py writes this part) -/
def Z0 : Sg := (fun c _ => if c = 13 then -1 else 0, 0, 0)
section PC
variable {S T0 : Sg} {Q : Nat → Int32 → Sg → Prop}
/-- behind j lists of the class's constructor -/
def CI (j : Nat) (S : Sg) : Prop := (∀ k, k ≠ 1 → S.1 10 k = if k = 0 then 1 else 0) ∧ S.1 10 1 = nI j ∧ (∀ i, S.1 12 i = 0) ∧ (∀ i, i < j → S.1 13 i = nE) ∧ (∀ i, i < j → S.1 i 0 = nI i) ∧ (∀ c i, 14 ≤ c → S.1 c i = 0) ∧ S.2 = (1 + j, 8 + 3 * j)
theorem CI_0 : CI 0 (nu Z0 0 8 fdP0) := by
  have z : ∀ d ∈ fdP0, d.2.1 < 8 := by decide
  refine ⟨fun k _ => ?_, by decide, fun i => ?_, fun i h => absurd h (Nat.not_lt_zero _), fun i h => absurd h (Nat.not_lt_zero _), fun c i h => ?_, rfl⟩
  · rw [nu_10]
    by_cases hk : k = 0
    · rw [if_pos hk, if_pos hk]; decide
    · rw [if_neg hk, if_neg hk]; rfl
  · rw [nu_ne (by decide) (Or.inr fun d hd _ e => by have := z d hd; omega)]; rfl
  · rw [nu_ne (by omega) (Or.inr fun d hd _ e => by have := z d hd; omega)]
    show (if c = 13 then (-1 : Int32) else 0) = 0
    rw [if_neg (by omega)]
theorem ci_step {j : Nat} (hj : j < 6) (h : CI j S) : (S.2.1 + 1 ≤ nB1 ∧ S.2.2 + 3 ≤ nB2) ∧ nI j = S.1 10 1 ∧ (nu S 1 3 fdList).1 12 (nt (nI j)) = 0 ∧ ¬ nI j < 0 ∧ CI (j + 1) (su (su (su (nu S 1 3 fdList) 11 (nt (nI j)) 0) 13 (nt (nI j)) nE) j 0 (nI j)) := by
  obtain ⟨h1, h2, h3, h4, h5, h6, h7⟩ := h
  have ej : nt (nI j) = j := nt_nI (by omega)
  have en : nt (S.1 10 1) = j := by rw [h2, ej]
  rw [ej]
  have b1 : S.2.1 = 1 + j := by rw [h7]
  have b2 : S.2.2 = 8 + 3 * j := by rw [h7]
  have x12 : ∀ i, (nu S 1 3 fdList).1 12 i = 0 := fun i => by
    by_cases hi : i = nt (S.1 10 1)
    · rw [hi]; exact nu_0 (by decide) (by decide)
    · rw [nu_ne (by decide) (Or.inl hi)]; exact h3 i
  have z : ∀ d ∈ fdList, 11 ≤ d.2.1 ∧ d.2.1 ≤ 13 := by decide
  refine ⟨⟨by rw [b1]; unfold nB1; omega, by rw [b2]; unfold nB2; omega⟩, h2.symm, x12 j, nI_pos (by omega), fun k hk => ?_, ?_, fun i => ?_, fun i hi => ?_, fun i hi => ?_, fun c i hc => ?_, ?_⟩
  · rw [su_ne (c' := 10) (Or.inl (by omega)), su_ne (c' := 10) (Or.inl (by decide)), su_ne (c' := 10) (Or.inl (by decide)), nu_10, if_neg hk]; exact h1 k hk
  · rw [su_ne (c' := 10) (Or.inl (by omega)), su_ne (c' := 10) (Or.inl (by decide)), su_ne (c' := 10) (Or.inl (by decide)), nu_10, if_pos rfl, h2]; exact (nI_succ j).symm
  · rw [su_ne (c' := 12) (Or.inl (by omega)), su_ne (c' := 12) (Or.inl (by decide)), su_ne (c' := 12) (Or.inl (by decide))]; exact x12 i
  · rw [su_ne (c' := 13) (Or.inl (by omega))]
    by_cases hi2 : i = j
    · rw [hi2]; exact su_at
    · rw [su_ne (c' := 13) (Or.inr hi2), su_ne (c' := 13) (Or.inl (by decide)), nu_ne (by decide) (Or.inl (by rw [en]; exact hi2))]; exact h4 i (by omega)
  · by_cases hi2 : i = j
    · rw [hi2]; exact su_at
    · rw [su_ne (c' := i) (Or.inl hi2), su_ne (c' := i) (Or.inl (by omega)), su_ne (c' := i) (Or.inl (by omega)), nu_ne (c := i) (by omega) (Or.inr fun d hd _ e => by have := z d hd; omega)]; exact h5 i (by omega)
  · rw [su_ne (c' := c) (Or.inl (by omega)), su_ne (c' := c) (Or.inl (by omega)), su_ne (c' := c) (Or.inl (by omega)), nu_ne (c := c) (by omega) (Or.inr fun d hd _ e => by have := z d hd; omega)]; exact h6 c i hc
  · exact Prod.ext (by show S.2.1 + 1 = 1 + (j + 1); omega) (by show S.2.2 + 3 = 8 + 3 * (j + 1); omega)
/-- behind the class's constructor -/
def CE (S : Sg) : Prop := (∀ k, S.1 10 k = if k = 0 then 1 else if k = 1 then 6 else 0) ∧ (∀ i, S.1 12 i = 0) ∧ (∀ i, i < 6 → S.1 13 i = nE) ∧ (∀ i, i < 6 → S.1 i 0 = nI i) ∧ (∀ c i, 14 ≤ c → S.1 c i = 0) ∧ S.2 = (7, 26) ∧ S.1 6 0 = 0 ∧ S.1 7 0 = 10
theorem CE_of (h : CI 6 S) : CE (su (su S 6 0 0) 7 0 10) := by
  obtain ⟨h1, h2, h3, h4, h5, h6, h7⟩ := h
  refine ⟨fun k => ?_, fun i => ?_, fun i hi => ?_, fun i hi => ?_, fun c i hc => ?_, h7, ?_, su_at⟩
  · rw [su_ne (c' := 10) (Or.inl (by decide)), su_ne (c' := 10) (Or.inl (by decide))]
    by_cases hk : k = 1
    · rw [hk, h2]; decide
    · rw [h1 k hk, if_neg hk]
  · rw [su_ne (c' := 12) (Or.inl (by decide)), su_ne (c' := 12) (Or.inl (by decide))]; exact h3 i
  · rw [su_ne (c' := 13) (Or.inl (by decide)), su_ne (c' := 13) (Or.inl (by decide))]; exact h4 i hi
  · rw [su_ne (c' := i) (Or.inl (by omega)), su_ne (c' := i) (Or.inl (by omega))]; exact h5 i hi
  · rw [su_ne (c' := c) (Or.inl (by omega)), su_ne (c' := c) (Or.inl (by omega))]; exact h6 c i hc
  · rw [su_ne (c' := 6) (Or.inl (by decide))]; exact su_at
theorem ci_go {j : Nat} (hj : j < 6) (h : CI j S) {K : Sg → Prop} (k : ∀ T, CI (j + 1) T → K T) : (S.2.1 + 1 ≤ nB1 ∧ S.2.2 + 3 ≤ nB2) ∧ (∀ v, v = S.1 10 1 → ∀ S1, S1 = nu S 1 3 fdList → w_arI v S1 (fun k5 _ S3 => (k5 = 0 → (¬ v < 0 ∧ (∀ S6, S6 = su S3 j 0 v → K S6))) ∧ (¬ k5 = 0 → Q k5 0 S3))) := by
  obtain ⟨b, e, z, q, h1⟩ := ci_step hj h
  refine And.intro b (fun v ev S1 e1 => ?_)
  obtain rfl : v = nI j := ev.trans e.symm
  subst e1
  refine And.intro z (And.intro (fun _ => And.intro q (fun S6 e6 => ?_)) (fun r => absurd rfl r))
  exact k S6 (e6 ▸ h1)
theorem init_c (h : CI 0 S) (k : ∀ T, CE T → Q 0 0 T) : w_X7_init S Q := by
  unfold w_X7_init
  refine ci_go (j := 0) (by decide) h (fun S h => ?_)
  refine ci_go (j := 1) (by decide) h (fun S h => ?_)
  refine ci_go (j := 2) (by decide) h (fun S h => ?_)
  refine ci_go (j := 3) (by decide) h (fun S h => ?_)
  refine ci_go (j := 4) (by decide) h (fun S h => ?_)
  refine ci_go (j := 5) (by decide) h (fun S h => ?_)
  intro S7 e7 S8 e8
  subst e7 e8
  exact k _ (CE_of h)
/-! the reference -/
def lsm (j : Nat) : Nat := ((List.range j).map fun i => if mSc i then 0 else mLen i).sum
theorem ls_s {j : Nat} (h : mSc j = false) : lsm (j + 1) = lsm j + mLen j := by
  unfold lsm
  rw [List.range_succ, List.map_append, List.sum_append]
  simp [h]
theorem ls_k {j : Nat} (h : mSc j = true) : lsm (j + 1) = lsm j := by
  unfold lsm
  rw [List.range_succ, List.map_append, List.sum_append]
  simp [h]
theorem ls_b : ∀ j, j < 44 → lsm j ≤ 9000 := by decide +kernel
/-- behind the fields below j of the reference's constructor; T0: its new object -/
def MI (T0 : Sg) (j : Nat) (S : Sg) : Prop := (∀ c i, c ≤ 14 → S.1 c i = T0.1 c i) ∧ (∀ i, j ≤ i → S.1 15 i = 0) ∧ (∀ i, i < j → mSc i = false → S.1 (200 + i) 0 = nI i) ∧ (∀ c i, 100 ≤ c → c < 200 → S.1 c i = 0) ∧ (∀ c i, 300 ≤ c → S.1 c i = if c = 301 ∧ i = 0 then 10 else 0) ∧ S.2.1 ≤ 8 + j ∧ S.2.2 ≤ 100 + lsm j
theorem mi_skip {j : Nat} (hs : mSc j = true) (h : MI T0 j S) : MI T0 (j + 1) S := by
  obtain ⟨h1, h2, h3, h4, h5, h6, h7⟩ := h
  refine ⟨h1, fun i hi => h2 i (by omega), fun i hi hm => ?_, h4, h5, by omega, by rw [ls_k hs]; exact h7⟩
  by_cases e : i = j
  · rw [e, hs] at hm; exact absurd hm (by decide)
  · exact h3 i (by omega) hm
theorem mi_step {j : Nat} (hj : j < 43) (hs : mSc j = false) (h : MI T0 j S) : (S.1 15 j ≠ 1 ∧ S.2.1 + 1 ≤ nB1 ∧ S.2.2 + mLen j ≤ nB2) ∧ MI T0 (j + 1) (su (nmd S j) (200 + j) 0 (nI j)) := by
  obtain ⟨h1, h2, h3, h4, h5, h6, h7⟩ := h
  have hb := ls_b (j + 1) (by omega)
  have hb1 := ls_s hs
  refine ⟨⟨by rw [h2 j (Nat.le_refl _)]; decide, by unfold nB1; omega, by unfold nB2; omega⟩, fun c i hc => ?_, fun i hi => ?_, fun i hi hm => ?_, fun c i hc hd => ?_, fun c i hc => ?_, ?_, ?_⟩
  · rw [su_ne (c' := c) (Or.inl (by omega)), nmd_ne (c := c) (Or.inl (by omega)) (by omega)]; exact h1 c i hc
  · rw [su_ne (c' := 15) (Or.inl (by omega)), nmd_ne (c := 15) (Or.inr (by omega)) (by omega)]; exact h2 i (by omega)
  · by_cases e : i = j
    · rw [e]; exact su_at
    · rw [su_ne (Or.inl (by omega)), nmd_ne (Or.inl (by omega)) (by omega)]; exact h3 i (by omega) hm
  · rw [su_ne (c' := c) (Or.inl (by omega))]
    show (if c = 15 ∧ i = j then (1 : Int32) else if c = 100 + j then 0 else S.1 c i) = 0
    rw [if_neg (by omega), h4 c i hc hd]
    split <;> rfl
  · rw [su_ne (c' := c) (Or.inl (by omega)), nmd_ne (c := c) (Or.inl (by omega)) (by omega)]; exact h5 c i hc
  · show S.2.1 + 1 ≤ 8 + (j + 1)
    omega
  · show S.2.2 + mLen j ≤ 100 + lsm (j + 1)
    omega
/-- the same while the loop runs that fills the two rows of the line -/
def MJ (T0 : Sg) (k : Nat) (S : Sg) : Prop := (∀ c i, c ≤ 14 → S.1 c i = T0.1 c i) ∧ (∀ i, i < 43 → mSc i = false → S.1 (200 + i) 0 = nI i) ∧ (∀ c i, 100 ≤ c → c < 200 → S.1 c i = if (c = 126 ∨ c = 127) ∧ i < k then -1 else 0) ∧ (∀ c i, 300 ≤ c → S.1 c i = if c = 301 ∧ i = 0 then 10 else 0) ∧ S.2.1 ≤ 60 ∧ S.2.2 ≤ 9500
theorem MJ_0 (h : MI T0 43 S) : MJ T0 0 S := by
  obtain ⟨h1, h2, h3, h4, h5, h6, h7⟩ := h
  have hb := ls_b 43 (by decide)
  refine ⟨h1, h3, fun c i hc hd => ?_, h5, by omega, by omega⟩
  rw [if_neg (fun q => absurd q.2 (Nat.not_lt_zero _))]
  exact h4 c i hc hd
theorem mj_step {k : Nat} (h : MJ T0 k S) : MJ T0 (k + 1) (su (su S 126 k (-1)) 127 k (-1)) := by
  obtain ⟨h1, h2, h3, h4, h5, h6⟩ := h
  refine ⟨fun c i hc => ?_, fun i hi hm => ?_, fun c i hc hd => ?_, fun c i hc => ?_, h5, h6⟩
  · rw [su_ne (c' := c) (Or.inl (by omega)), su_ne (c' := c) (Or.inl (by omega))]; exact h1 c i hc
  · rw [su_ne (Or.inl (by omega)), su_ne (Or.inl (by omega))]; exact h2 i hi hm
  · show (if c = 127 ∧ i = k then (-1 : Int32) else if c = 126 ∧ i = k then -1 else S.1 c i) = _
    rw [h3 c i hc hd]
    by_cases q1 : c = 127 ∧ i = k
    · rw [if_pos q1, if_pos ⟨Or.inr q1.1, by omega⟩]
    · rw [if_neg q1]
      by_cases q2 : c = 126 ∧ i = k
      · rw [if_pos q2, if_pos ⟨Or.inl q2.1, by omega⟩]
      · rw [if_neg q2]
        by_cases q3 : (c = 126 ∨ c = 127) ∧ i < k
        · rw [if_pos q3, if_pos ⟨q3.1, by omega⟩]
        · rw [if_neg q3, if_neg (fun q => by omega)]
  · rw [su_ne (c' := c) (Or.inl (by omega)), su_ne (c' := c) (Or.inl (by omega))]; exact h4 c i hc
theorem vp_nI {k n : Nat} (h : k < n) (hn : n < 2147483648) : vp_in (nI k) n := vp_of (nI_pos' (by omega)) (nI_lt h (by omega)) hn
theorem loop_px (kQ : ∀ S, MJ T0 1440 S → Q 0 0 S) : ∀ m k, k + m = 1440 → ∀ S, MJ T0 k S → ∃ n9, w_X8_init_289 Q n9 (nI k) S := by
  intro m
  induction m with
  | zero =>
    intro k hk S h
    have hk : k = 1440 := hk
    subst hk
    exact ⟨1, fun _ => kQ S h, fun q => absurd (show (1440 : Int32) ≤ nI 1440 by decide) q⟩
  | succ m ih =>
    intro k hk S h
    have e9 : nt (nI k) = k := nt_nI (by omega)
    obtain ⟨n9, hn⟩ := ih (k + 1) (by omega) _ (mj_step h)
    refine ⟨n9 + 1, fun q => ?_, fun _ => And.intro (h.2.1 26 (by decide) rfl) (And.intro (vp_nI (by omega) (by decide)) (fun S1 e1 => And.intro ?_ (And.intro (vp_nI (by omega) (by decide)) (fun S2 e2 => ?_))))⟩
    · exact absurd (show nI 1440 ≤ nI k from q) (nI_ge (by omega) (by decide))
    · rw [e1, su_ne (Or.inl (by decide))]
      exact h.2.1 27 (by decide) rfl
    · rw [e2, e1, e9, ← nI_succ]
      exact hn
theorem nu_zz {k N : Nat} {fds : List Fd3} {c i : Nat} (h : c ≠ 10) (h0 : S.1 c i = 0) (h2 : (fds.any fun d => d.1 == 2 && d.2.1 == c) = false) : (nu S k N fds).1 c i = 0 := by
  show (if c = 10 then (if i = k then S.1 10 k + 1 else S.1 10 i) else if i = nt (S.1 10 k) ∧ (fds.any fun d => d.1 == 0 && d.2.1 == c) = true then 0 else if i = nt (S.1 10 k) ∧ (fds.any fun d => d.1 == 2 && d.2.1 == c) = true then -1 else S.1 c i) = 0
  rw [if_neg h, h2, h0]
  simp
theorem MI_3 (h : CE S) : MI (nu S 12 43 fdM0) 3 (su (nu S 12 43 fdM0) 301 0 10) := by
  obtain ⟨h1, h2, h3, h4, h5, h6, h7, h8⟩ := h
  have z : ∀ d ∈ fdM0, 200 ≤ d.2.1 := by decide +kernel
  have z2 : ∀ d ∈ fdM0, d.1 = 2 → d.2.1 < 300 := by decide +kernel
  have b1 : S.2.1 = 7 := by rw [h6]
  have b2 : S.2.2 = 26 := by rw [h6]
  have zz : ∀ c i, 14 ≤ c → c < 200 → (nu S 12 43 fdM0).1 c i = 0 := fun c i hc hd => by
    rw [nu_ne (c := c) (by omega) (Or.inr fun d hd9 _ e => by have := z d hd9; omega)]; exact h5 c i hc
  have any2 : ∀ c, 300 ≤ c → (fdM0.any fun d => d.1 == 2 && d.2.1 == c) = false := fun c hc => by
    rw [List.any_eq_false]
    intro d hd e
    rw [Bool.and_eq_true, beq_iff_eq, beq_iff_eq] at e
    have := z2 d hd e.1
    omega
  refine ⟨fun c i hc => su_ne (Or.inl (by omega)), fun i hi => ?_, fun i hi hm => ?_, fun c i hc hd => ?_, fun c i hc => ?_, ?_, ?_⟩
  · rw [su_ne (c' := 15) (Or.inl (by decide))]; exact zz 15 i (by decide) (by decide)
  · exfalso
    have : ∀ i, i < 3 → mSc i = true := by decide
    rw [this i hi] at hm
    exact absurd hm (by decide)
  · rw [su_ne (c' := c) (Or.inl (by omega))]; exact zz c i (by omega) hd
  · have e0 := nu_zz (S := S) (k := 12) (N := 43) (fds := fdM0) (c := c) (i := i) (by omega) (h5 c i (by omega)) (any2 c hc)
    show (if c = 301 ∧ i = 0 then (10 : Int32) else (nu S 12 43 fdM0).1 c i) = _
    rw [e0]
  · show S.2.1 + 1 ≤ 8 + 3
    omega
  · show S.2.2 + 43 ≤ 100 + lsm 3
    omega
theorem mi_go {j : Nat} (hj : j < 43) (hs : mSc j = false) (h : MI T0 j S) {K : Sg → Prop} (k : ∀ T, MI T0 (j + 1) T → K T) : (S.1 15 j ≠ 1 ∧ S.2.1 + 1 ≤ nB1 ∧ S.2.2 + mLen j ≤ nB2) ∧ (∀ S4, S4 = nmd S j → (∀ S5, S5 = su S4 (200 + j) 0 (nI j) → K S5)) := by
  obtain ⟨b, h1⟩ := mi_step hj hs h
  refine And.intro b (fun S4 e4 S5 e5 => k S5 ?_)
  rw [e5, e4]
  exact h1
theorem init_m (h : CE S) (k : ∀ T, MJ (nu S 12 43 fdM0) 1440 T → Q 0 0 T) : w_X8_init (nu S 12 43 fdM0) Q := by
  have h := MI_3 h
  generalize nu S 12 43 fdM0 = T0 at h k ⊢
  unfold w_X8_init
  intro S3 e3
  replace h : MI T0 3 S3 := e3 ▸ h
  clear e3
  refine mi_go (j := 3) (by decide) rfl h (fun S h => ?_)
  refine mi_go (j := 4) (by decide) rfl h (fun S h => ?_)
  refine mi_go (j := 5) (by decide) rfl h (fun S h => ?_)
  refine mi_go (j := 6) (by decide) rfl h (fun S h => ?_)
  replace h := mi_skip (j := 7) rfl h
  refine mi_go (j := 8) (by decide) rfl h (fun S h => ?_)
  refine mi_go (j := 9) (by decide) rfl h (fun S h => ?_)
  refine mi_go (j := 10) (by decide) rfl h (fun S h => ?_)
  refine mi_go (j := 11) (by decide) rfl h (fun S h => ?_)
  refine mi_go (j := 12) (by decide) rfl h (fun S h => ?_)
  refine mi_go (j := 13) (by decide) rfl h (fun S h => ?_)
  refine mi_go (j := 14) (by decide) rfl h (fun S h => ?_)
  refine mi_go (j := 15) (by decide) rfl h (fun S h => ?_)
  replace h := mi_skip (j := 16) rfl h
  refine mi_go (j := 17) (by decide) rfl h (fun S h => ?_)
  refine mi_go (j := 18) (by decide) rfl h (fun S h => ?_)
  refine mi_go (j := 19) (by decide) rfl h (fun S h => ?_)
  refine mi_go (j := 20) (by decide) rfl h (fun S h => ?_)
  replace h := mi_skip (j := 21) rfl h
  refine mi_go (j := 22) (by decide) rfl h (fun S h => ?_)
  refine mi_go (j := 23) (by decide) rfl h (fun S h => ?_)
  refine mi_go (j := 24) (by decide) rfl h (fun S h => ?_)
  refine mi_go (j := 25) (by decide) rfl h (fun S h => ?_)
  refine mi_go (j := 26) (by decide) rfl h (fun S h => ?_)
  refine mi_go (j := 27) (by decide) rfl h (fun S h => ?_)
  refine mi_go (j := 28) (by decide) rfl h (fun S h => ?_)
  refine mi_go (j := 29) (by decide) rfl h (fun S h => ?_)
  refine mi_go (j := 30) (by decide) rfl h (fun S h => ?_)
  replace h := mi_skip (j := 31) rfl h
  refine mi_go (j := 32) (by decide) rfl h (fun S h => ?_)
  refine mi_go (j := 33) (by decide) rfl h (fun S h => ?_)
  refine mi_go (j := 34) (by decide) rfl h (fun S h => ?_)
  refine mi_go (j := 35) (by decide) rfl h (fun S h => ?_)
  replace h := mi_skip (j := 36) rfl h
  refine mi_go (j := 37) (by decide) rfl h (fun S h => ?_)
  refine mi_go (j := 38) (by decide) rfl h (fun S h => ?_)
  refine mi_go (j := 39) (by decide) rfl h (fun S h => ?_)
  refine mi_go (j := 40) (by decide) rfl h (fun S h => ?_)
  refine mi_go (j := 41) (by decide) rfl h (fun S h => ?_)
  replace h := mi_skip (j := 42) rfl h
  exact loop_px k 1440 0 rfl _ (MJ_0 h)
/-- behind both constructors and the law's one place for an answer -/
def FE (S : Sg) : Prop := (∀ k, S.1 10 k = if k = 0 then 1 else if k = 1 then 6 else if k = 12 then 1 else if k = 14 then 1 else 0) ∧ (∀ i, S.1 12 i = 0) ∧ (∀ i, i < 6 → S.1 13 i = nE) ∧ (∀ i, i < 6 → S.1 i 0 = nI i) ∧ S.1 6 0 = 0 ∧ S.1 7 0 = 10 ∧ (∀ i, i < 43 → mSc i = false → S.1 (200 + i) 0 = nI i) ∧ (∀ c i, mc c → S.1 c i = g0 c i) ∧ S.2.1 ≤ 61 ∧ S.2.2 ≤ 9501
theorem T0_low {c i : Nat} (hc : c ≤ 14) (h : c ≠ 10) : (nu S 12 43 fdM0).1 c i = S.1 c i := by
  have z : ∀ d ∈ fdM0, 200 ≤ d.2.1 := by decide +kernel
  exact nu_ne h (Or.inr fun d hd9 _ e => by have := z d hd9; omega)
theorem FE_of {T : Sg} (h : CE S) (hj : MJ (nu S 12 43 fdM0) 1440 T) : (T.1 10 14 = 0 ∧ T.2.1 + 1 ≤ nB1 ∧ T.2.2 + 1 ≤ nB2) ∧ FE (nou T) := by
  obtain ⟨h1, h2, h3, h4, h5, h6, h7, h8⟩ := h
  obtain ⟨j1, j2, j3, j4, j5, j6⟩ := hj
  have e10 : ∀ k, T.1 10 k = if k = 12 then 1 else if k = 0 then 1 else if k = 1 then 6 else 0 := fun k => by
    rw [j1 10 k (by decide), nu_10]
    by_cases hk : k = 12
    · rw [if_pos hk, if_pos hk, h1 12]; decide
    · rw [if_neg hk, if_neg hk, h1 k]
  have n9 : ∀ c i, c ≠ 10 → c ≠ 95 → (nou T).1 c i = T.1 c i := fun c i a b => nou_ne a b
  refine ⟨⟨by rw [e10]; decide, by unfold nB1; omega, by unfold nB2; omega⟩, fun k => ?_, fun i => ?_, fun i hi => ?_, fun i hi => ?_, ?_, ?_, fun i hi hm => ?_, fun c i hc => ?_, ?_, ?_⟩
  · show (if k = 14 then T.1 10 14 + 1 else T.1 10 k) = _
    rw [e10, e10]
    by_cases a : k = 14
    · rw [a]; decide
    · by_cases b : k = 12
      · rw [b]; decide
      · rw [if_neg a, if_neg b, if_neg b, if_neg a]
  · rw [n9 12 i (by decide) (by decide), j1 12 i (by decide), T0_low (by decide) (by decide)]; exact h2 i
  · rw [n9 13 i (by decide) (by decide), j1 13 i (by decide), T0_low (by decide) (by decide)]; exact h3 i hi
  · rw [n9 i 0 (by omega) (by omega), j1 i 0 (by omega), T0_low (by omega) (by omega)]; exact h4 i hi
  · rw [n9 6 0 (by decide) (by decide), j1 6 0 (by decide), T0_low (by decide) (by decide)]; exact h7
  · rw [n9 7 0 (by decide) (by decide), j1 7 0 (by decide), T0_low (by decide) (by decide)]; exact h8
  · rw [n9 _ 0 (by omega) (by omega)]; exact j2 i hi hm
  · unfold mc at hc
    rw [n9 c i (by omega) (by omega)]
    unfold g0
    rcases hc with hc | hc
    · rw [j3 c i (by omega) (by omega), if_neg (show ¬ (c = 301 ∧ i = 0) from fun q => by omega)]
    · rw [j4 c i (by omega), if_neg (show ¬ ((c = 126 ∨ c = 127) ∧ i < 1440) from fun q => by omega)]
  · show T.2.1 + 1 ≤ 61
    omega
  · show T.2.2 + 1 ≤ 9501
    omega
theorem FE_Rel (h : FE S) : Rel 0 S := by
  obtain ⟨h1, h2, h3, h4, h5, h6, h7, h8, h9, h10⟩ := h
  refine Rel_0 h8 (fun q hq => ?_) (fun j hj => Or.inl (h3 j hj)) (by omega) (by omega)
  have z : ∀ q ∈ scT, (q.1 = 12 ∨ (q.1 = 10 ∧ 3 ≤ q.2.1 ∧ q.2.1 ≤ 11) ∨ (q.1 = 6 ∧ q.2.1 = 0)) ∧ (q.2.2 ≠ 301 ∧ q.2.2 ≠ 126 ∧ q.2.2 ≠ 127) ∨ (q.1 = 7 ∧ q.2.1 = 0 ∧ q.2.2 = 301) := by decide
  rcases z q hq with ⟨a, b1, b2, b3⟩ | ⟨a, b, d⟩
  · rw [g0_z b1 b2 b3]
    rcases a with a | ⟨a, a1, a2⟩ | ⟨a, a1⟩
    · rw [a]; exact h2 _
    · rw [a, h1, if_neg (by omega), if_neg (by omega), if_neg (by omega), if_neg (by omega)]
    · rw [a, a1]; exact h5
  · rw [a, b, d, h6]; rfl
end PC
