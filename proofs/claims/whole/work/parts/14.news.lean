/-! what is made: an object with its columns at their start, an array, a list's row -/
def nu (S : Sg) (k N : Nat) (fds : List Fd3) : Sg := (fun c i => if c = 10 then (if i = k then S.1 10 k + 1 else S.1 10 i) else if i = nt (S.1 10 k) ∧ (fds.any fun d => d.1 == 0 && d.2.1 == c) = true then 0 else if i = nt (S.1 10 k) ∧ (fds.any fun d => d.1 == 2 && d.2.1 == c) = true then -1 else S.1 c i, S.2.1 + 1, S.2.2 + N)
def d0 (d : Fd3) : Value := if d.1 = 0 then .int 0 else .null
def fdOK (fds : List Fd3) : Bool := (fds.all fun d => (d.1 == 0 || d.1 == 2) && oc d.2.1 && d.2.1 != 10 && d.2.1 != 15) && (fds.all fun d => fds.all fun d' => d.2.1 != d'.2.1 || d.1 == d'.1) &&
  (((!fds.any fun d => d.2.1 == 12) && (!fds.any fun d => d.2.1 == 13)) || ((fds.any fun d => d.1 == 0 && d.2.1 == 12) && (fds.any fun d => d.1 == 2 && d.2.1 == 13)))
def tbN (tb : Tb) : Prop := ∀ a ∈ tbCols tb, a.1 ≠ 10 ∧ a.1 ≠ 15
theorem tb1_n : tbN tb1 := by unfold tbN; decide +kernel
theorem tb0_n : tbN tb0 := by unfold tbN; decide +kernel
theorem nt_succ {x : Int32} (h : ¬ x < 0) (h2 : nt x < 2147483647) : nt (x + 1) = nt x + 1 ∧ ¬ x + 1 < 0 := by
  have e : x = nI (nt x) := (nI_nt h).symm
  have e2 : x + 1 = nI (nt x + 1) := by
    have h9 := nI_1 (nt x)
    rw [← e] at h9
    exact h9
  rw [e2]
  exact ⟨nt_nI (by omega), nI_pos (by omega)⟩
section NN
variable {X : Cx} {S : Sg} {tb : Tb} {k N ci : Nat} {fds : List Fd3}
theorem nu_10 {i : Nat} : (nu S k N fds).1 10 i = if i = k then S.1 10 k + 1 else S.1 10 i := rfl
theorem nu_ne {c i : Nat} (h : c ≠ 10) (h2 : i ≠ nt (S.1 10 k) ∨ ∀ d ∈ fds, d.1 = 0 ∨ d.1 = 2 → d.2.1 ≠ c) : (nu S k N fds).1 c i = S.1 c i := by
  show (if c = 10 then _ else if i = nt (S.1 10 k) ∧ _ then _ else if i = nt (S.1 10 k) ∧ _ then _ else S.1 c i) = _
  rw [if_neg h]
  rcases h2 with h2 | h2
  · rw [if_neg (fun q => h2 q.1), if_neg (fun q => h2 q.1)]
  · have e : ∀ z, z = 0 ∨ z = 2 → (fds.any fun d => d.1 == z && d.2.1 == c) = true → False := by
      intro z hz q
      obtain ⟨d, hd, hq⟩ := List.any_eq_true.mp q
      simp only [Bool.and_eq_true, beq_iff_eq] at hq
      exact h2 d hd (by rcases hz with rfl | rfl; exact Or.inl hq.1; exact Or.inr hq.1) hq.2
    rw [if_neg (fun q => e 0 (Or.inl rfl) q.2), if_neg (fun q => e 2 (Or.inr rfl) q.2)]
theorem nu_0 {c : Nat} (h : c ≠ 10) (h2 : (fds.any fun d => d.1 == 0 && d.2.1 == c) = true) : (nu S k N fds).1 c (nt (S.1 10 k)) = 0 := by
  show (if c = 10 then _ else if nt (S.1 10 k) = nt (S.1 10 k) ∧ _ then _ else _) = _
  rw [if_neg h, if_pos ⟨rfl, h2⟩]
theorem nu_2 {c : Nat} (h : c ≠ 10) (h2 : (fds.any fun d => d.1 == 2 && d.2.1 == c) = true) (h3 : (fds.any fun d => d.1 == 0 && d.2.1 == c) = false) : (nu S k N fds).1 c (nt (S.1 10 k)) = -1 := by
  show (if c = 10 then _ else if nt (S.1 10 k) = nt (S.1 10 k) ∧ _ then _ else if nt (S.1 10 k) = nt (S.1 10 k) ∧ _ then _ else _) = _
  rw [if_neg h, if_neg (fun q => by rw [h3] at q; exact absurd q.2 (by decide)), if_pos ⟨rfl, h2⟩]
theorem dm_nu {S' : Sg} (hl : LI S) (hb : S.2.1 + 1 ≤ nB1) (h10 : ∀ i, S'.1 10 i = if i = k then S.1 10 k + 1 else S.1 10 i) (h15 : ∀ i, S'.1 15 i = S.1 15 i) (hk : k < 61 ∧ k ≠ 13) (id : Nat) : dm S' id ↔ dm S id ∨ id = enc k (nt (S.1 10 k)) := by
  have hc := hl.1 k
  have hs := nt_succ hc.1 (by have := hc.2; unfold nB1 at hb; omega)
  unfold dm
  rw [h15, h10]
  by_cases h13 : id % 64 = 13
  · rw [if_pos h13, if_pos h13]
    refine ⟨Or.inl, fun q => q.elim (fun q => q) (fun q => ?_)⟩
    rw [q, enc_mod (by omega)] at h13
    exact absurd h13 hk.2
  · rw [if_neg h13, if_neg h13]
    by_cases hi : id % 64 = k
    · rw [if_pos hi, hs.1, hi]
      constructor
      · intro q
        by_cases q2 : id / 64 = nt (S.1 10 k)
        · right; unfold enc; omega
        · left; omega
      · rintro (q | q)
        · omega
        · rw [q, enc_div (by omega)]; omega
    · rw [if_neg hi]
      refine ⟨Or.inl, fun q => q.elim (fun q => q) (fun q => ?_)⟩
      rw [q, enc_mod (by omega)] at hi
      exact absurd rfl hi
theorem not_dm (hk : k < 61 ∧ k ≠ 13) : ¬ dm S (enc k (nt (S.1 10 k))) := by
  unfold dm
  rw [enc_mod (by omega), enc_div (by omega), if_neg hk.2]
  exact Nat.lt_irrefl _
theorem ar_oc {S' : Sg} (h : ∀ c i, oc c = false → S'.1 c i = S.1 c i) {kd i : Nat} : ar X S' kd i = ar X S kd i := by
  unfold ar
  rw [h 58 i (by decide), h 14 i (by decide), h 16 i (by decide), h 17 i (by decide)]
  have e1 : (fun j' => S'.1 (1000 + 2 * i) j') = fun j' => S.1 (1000 + 2 * i) j' := funext fun q => h _ _ (oc_big (by omega))
  have e2 : (fun j' => S'.1 (1001 + 2 * i) j') = fun j' => S.1 (1001 + 2 * i) j' := funext fun q => h _ _ (oc_big (by omega))
  have hm : 99 ≤ mCol i ∧ mCol i < 200 := by unfold mCol; split <;> omega
  have hoc : oc (mCol i) = false := by
    unfold oc
    rw [decide_eq_false (show ¬ (mCol i < 99) by omega), decide_eq_false (show ¬ (200 ≤ mCol i) by omega)]
    simp
  have e3 : (fun j' => S'.1 (mCol i) j') = fun j' => S.1 (mCol i) j' := funext fun q => h _ _ hoc
  have e4 : (fun j' => (S'.1 95 j').toInt64) = fun j' => (S.1 95 j').toInt64 := funext fun q => by rw [h 95 q (by decide)]
  rw [e1, e2, e3, e4]
theorem fdOK_1 (hf : fdOK fds = true) {d : Fd3} (hd : d ∈ fds) : (d.1 = 0 ∨ d.1 = 2) ∧ oc d.2.1 = true ∧ d.2.1 ≠ 10 ∧ d.2.1 ≠ 15 := by
  unfold fdOK at hf
  simp only [Bool.and_eq_true] at hf
  have h := List.all_eq_true.mp hf.1.1 d hd
  simp only [Bool.and_eq_true, Bool.or_eq_true, beq_iff_eq, bne_iff_ne] at h
  exact ⟨h.1.1.1, h.1.1.2, h.1.2, h.2⟩
theorem fdOK_2 (hf : fdOK fds = true) {d d' : Fd3} (hd : d ∈ fds) (hd' : d' ∈ fds) (e : d.2.1 = d'.2.1) : d.1 = d'.1 := by
  unfold fdOK at hf
  simp only [Bool.and_eq_true] at hf
  have h := List.all_eq_true.mp (List.all_eq_true.mp hf.1.2 d hd) d' hd'
  simp only [Bool.or_eq_true, beq_iff_eq, bne_iff_ne] at h
  exact h.elim (fun q => absurd e q) (fun q => q)
theorem nu_d0 (hf : fdOK fds = true) {d : Fd3} (hd : d ∈ fds) : dv (nu S k N fds) (nt (S.1 10 k)) d = d0 d := by
  obtain ⟨h1, -, h3, -⟩ := fdOK_1 hf hd
  unfold dv d0
  rcases h1 with h1 | h1
  · rw [if_pos h1, if_pos h1, nu_0 h3 (List.any_eq_true.mpr ⟨d, hd, by simp [h1]⟩)]
  · rw [if_neg (by omega), if_neg (by omega), if_neg (by omega), nu_2 h3 (List.any_eq_true.mpr ⟨d, hd, by simp [h1]⟩) ?_, rf_null]
    rw [Bool.eq_false_iff]
    intro q
    obtain ⟨d', hd', hq⟩ := List.any_eq_true.mp q
    simp only [Bool.and_eq_true, beq_iff_eq] at hq
    have := fdOK_2 hf hd' hd hq.2
    omega
theorem LI_nu (hf : fdOK fds = true) (hb : S.2.1 + 1 ≤ nB1) (hk2 : k ≠ 2) (hl : LI S) : LI (nu S k N fds) := by
  refine ⟨fun i => ?_, fun j => ?_⟩
  · rw [nu_10]
    show _ ∧ _ ≤ S.2.1 + 1
    have hc := hl.1 k
    have hs := nt_succ hc.1 (by have := hc.2; unfold nB1 at hb; omega)
    split
    · rw [hs.1]; exact ⟨hs.2, by omega⟩
    · exact ⟨(hl.1 i).1, Nat.le_succ_of_le (hl.1 i).2⟩
  · have e10 : (nu S k N fds).1 10 2 = S.1 10 2 := by rw [nu_10, if_neg (Ne.symm hk2)]
    have hne : ∀ c i, c = 14 ∨ c = 16 ∨ c = 17 → (nu S k N fds).1 c i = S.1 c i := by
      intro c i h9
      refine nu_ne (by omega) (Or.inr fun d hd _ e => ?_)
      have := (fdOK_1 hf hd).2.1
      rw [e] at this
      rcases h9 with rfl | rfl | rfl <;> exact absurd this (by decide)
    rw [e10, hne 16 _ (by omega), hne 17 _ (by omega), hne 14 _ (by omega)]
    by_cases hj : j = nt (S.1 10 k)
    · have h3 : fdOK fds = true := hf
      unfold fdOK at h3
      simp only [Bool.and_eq_true, Bool.or_eq_true, Bool.not_eq_true'] at h3
      rcases h3.2 with ⟨q1, q2⟩ | ⟨q1, q2⟩
      · have z : ∀ c, (fds.any fun d => d.2.1 == c) = false → ∀ d ∈ fds, d.1 = 0 ∨ d.1 = 2 → d.2.1 ≠ c := by
          intro c hc d hd _ e
          have : (fds.any fun d => d.2.1 == c) = true := List.any_eq_true.mpr ⟨d, hd, by simp [e]⟩
          rw [hc] at this
          cases this
        rw [nu_ne (c := 13) (by decide) (Or.inr (z 13 q2)), nu_ne (c := 12) (by decide) (Or.inr (z 12 q1))]
        exact hl.2 j
      · left
        obtain ⟨d, hd, hq⟩ := List.any_eq_true.mp q2
        simp only [Bool.and_eq_true, beq_iff_eq] at hq
        rw [hj, nu_0 (by decide) q1, nu_2 (by decide) q2 ?_]
        · exact ⟨by decide, rfl⟩
        · rw [Bool.eq_false_iff]
          intro q
          obtain ⟨d', hd', hq'⟩ := List.any_eq_true.mp q
          simp only [Bool.and_eq_true, beq_iff_eq] at hq'
          have := fdOK_2 hf hd' hd (hq'.2.trans hq.2.symm)
          omega
    · rw [nu_ne (c := 13) (by decide) (Or.inl hj), nu_ne (c := 12) (by decide) (Or.inl hj)]
      exact hl.2 j
theorem newS_obj (hT : xT X = tb) (hok : tbOK tb = true) (ha : tbArr tb) (hn : tbN tb) (hl : LI S) (hb : S.2.1 + 1 ≤ nB1) (h : tb.lookup k = some (ci, fds)) (hk : k < 61 ∧ k ≠ 13) (hf : fdOK fds = true) : newS X S (nu S k N fds) (enc k (nt (S.1 10 k))) N (.inr (ci, fds.map d0)) := by
  have hk2 : k ≠ 2 := fun e => by rw [e, ha.2.2.2.2.2] at h; cases h
  have h15 : ∀ i, (nu S k N fds).1 15 i = S.1 15 i := fun i => nu_ne (by decide) (Or.inr fun d hd _ => (fdOK_1 hf hd).2.2.2)
  refine ⟨rfl, dm_nu hl hb (fun i => nu_10) h15 hk, not_dm hk, ?_, fun id hid => ?_, fun v hv => ?_, LI_nu hf hb hk2⟩
  · rw [ct_obj hT h (by omega)]
    show Sum.inr (_, _) = Sum.inr (_, _)
    congr 2
    exact List.map_congr_left fun d hd => nu_d0 hf hd
  · have hm : id % 64 < 64 := Nat.mod_lt _ (by decide)
    rw [enc_self (id := id) rfl]
    cases hlk : tb.lookup (id % 64) with
    | none =>
      rw [ct_arr hT hlk hm, ct_arr hT hlk hm]
      refine ar_oc fun c i hc => nu_ne (fun e => by rw [e] at hc; exact absurd hc (by decide)) (Or.inr fun d hd _ e => ?_)
      have := (fdOK_1 hf hd).2.1
      rw [e, hc] at this
      cases this
    | some q =>
      obtain ⟨ci', fds'⟩ := q
      rw [ct_obj hT hlk hm, ct_obj hT hlk hm]
      show Sum.inr (_, _) = Sum.inr (_, _)
      congr 2
      refine List.map_congr_left fun d' hd' => ?_
      have key : d'.1 = 1 ∨ (nu S k N fds).1 d'.2.1 (id / 64) = S.1 d'.2.1 (id / 64) := by
        by_cases e1 : d'.1 = 1
        · exact Or.inl e1
        · right
          obtain ⟨k', hk'⟩ := List.getElem?_of_mem hd'
          have hmem := tbCols_mem hlk hk' e1
          refine nu_ne (hn _ hmem).1 ?_
          by_cases hi : id / 64 = nt (S.1 10 k)
          · right
            intro d hd hd1 e
            obtain ⟨k9, hk9⟩ := List.getElem?_of_mem hd
            have := tb_once hok h hk9 (by omega) hlk hk' e1 e.symm
            refine not_dm (S := S) hk ?_
            have e3 : id = enc k (nt (S.1 10 k)) := by rw [enc_self (id := id) this.1, hi]
            rw [← e3]; exact hid
          · exact Or.inl hi
      unfold dv
      rcases key with e1 | e1
      · simp [e1]
      · rw [e1]
  · obtain ⟨d, hd, e⟩ := List.mem_map.mp hv
    rw [← e]
    unfold d0
    split <;> trivial
end NN
