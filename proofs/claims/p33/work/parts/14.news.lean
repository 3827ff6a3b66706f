/-! what is made: an object with its columns at their start, an array, a list's row -/
def nu (S : Sg) (k N : Nat) (fds : List Fd3) : Sg := (fun c i => if c = 10 then (if i = k then S.1 10 k + 1 else S.1 10 i) else if i = nt (S.1 10 k) ∧ (fds.any fun d => d.1 == 0 && d.2.1 == c) = true then 0 else if i = nt (S.1 10 k) ∧ (fds.any fun d => d.1 == 2 && d.2.1 == c) = true then -1 else S.1 c i, S.2.1 + 1, S.2.2 + N)
def d0 (d : Fd3) : Value := if d.1 = 0 then .int 0 else .null
def fdOK (fds : List Fd3) : Bool := (fds.all fun d => (d.1 == 0 || d.1 == 2) && oc d.2.1 && d.2.1 != 10 && d.2.1 != 15) && (fds.all fun d => fds.all fun d' => d.2.1 != d'.2.1 || d.1 == d'.1) &&
  (((!fds.any fun d => d.2.1 == 12) && (!fds.any fun d => d.2.1 == 13)) || ((fds.any fun d => d.1 == 0 && d.2.1 == 12) && (fds.any fun d => d.1 == 2 && d.2.1 == 13)))
def tbN (tb : Tb) : Prop := ∀ a ∈ tbCols tb, a.1 ≠ 10 ∧ a.1 ≠ 15
theorem tb1_n : tbN tb1 := by unfold tbN; decide +kernel
theorem tb0_n : tbN tb0 := by unfold tbN; decide +kernel
theorem nt_succ {x : Int32} (h : ¬ x < 0) (h2 : nt x < 2147483647) : nt (x + 1) = nt x + 1 ∧ ¬ x + 1 < 0 := by
  have e : x = nI (nt x) := (nI_nt h).symm
  have e2 : x + 1 = nI (nt x + 1) := by
    have h9 := nI_1 (nt x)
    rw [← e] at h9
    exact h9
  rw [e2]
  exact ⟨nt_nI (by omega), nI_pos (by omega)⟩
section NN
variable {X : Cx} {S : Sg} {tb : Tb} {k N ci : Nat} {fds : List Fd3}
theorem nu_10 {i : Nat} : (nu S k N fds).1 10 i = if i = k then S.1 10 k + 1 else S.1 10 i := rfl
theorem nu_ne {c i : Nat} (h : c ≠ 10) (h2 : i ≠ nt (S.1 10 k) ∨ ∀ d ∈ fds, d.1 = 0 ∨ d.1 = 2 → d.2.1 ≠ c) : (nu S k N fds).1 c i = S.1 c i := by
  show (if c = 10 then _ else if i = nt (S.1 10 k) ∧ _ then _ else if i = nt (S.1 10 k) ∧ _ then _ else S.1 c i) = _
  rw [if_neg h]
  rcases h2 with h2 | h2
  · rw [if_neg (fun q => h2 q.1), if_neg (fun q => h2 q.1)]
  · have e : ∀ z, z = 0 ∨ z = 2 → (fds.any fun d => d.1 == z && d.2.1 == c) = true → False := by
      intro z hz q
      obtain ⟨d, hd, hq⟩ := List.any_eq_true.mp q
      simp only [Bool.and_eq_true, beq_iff_eq] at hq
      exact h2 d hd (by rcases hz with rfl | rfl; exact Or.inl hq.1; exact Or.inr hq.1) hq.2
    rw [if_neg (fun q => e 0 (Or.inl rfl) q.2), if_neg (fun q => e 2 (Or.inr rfl) q.2)]
theorem nu_0 {c : Nat} (h : c ≠ 10) (h2 : (fds.any fun d => d.1 == 0 && d.2.1 == c) = true) : (nu S k N fds).1 c (nt (S.1 10 k)) = 0 := by
  show (if c = 10 then _ else if nt (S.1 10 k) = nt (S.1 10 k) ∧ _ then _ else _) = _
  rw [if_neg h, if_pos ⟨rfl, h2⟩]
theorem nu_2 {c : Nat} (h : c ≠ 10) (h2 : (fds.any fun d => d.1 == 2 && d.2.1 == c) = true) (h3 : (fds.any fun d => d.1 == 0 && d.2.1 == c) = false) : (nu S k N fds).1 c (nt (S.1 10 k)) = -1 := by
  show (if c = 10 then _ else if nt (S.1 10 k) = nt (S.1 10 k) ∧ _ then _ else if nt (S.1 10 k) = nt (S.1 10 k) ∧ _ then _ else _) = _
  rw [if_neg h, if_neg (fun q => by rw [h3] at q; exact absurd q.2 (by decide)), if_pos ⟨rfl, h2⟩]
theorem dm_nu {S' : Sg} (hl : LI S) (hb : S.2.1 + 1 ≤ nB1) (h10 : ∀ i, S'.1 10 i = if i = k then S.1 10 k + 1 else S.1 10 i) (h15 : ∀ i, S'.1 15 i = S.1 15 i) (hk : k < 61 ∧ k ≠ 13) (id : Nat) : dm S' id ↔ dm S id ∨ id = enc k (nt (S.1 10 k)) := by
  have hc := hl.1 k
  have hs := nt_succ hc.1 (by have := hc.2; unfold nB1 at hb; omega)
  unfold dm
  rw [h15, h10]
  by_cases h13 : id % 64 = 13
  · rw [if_pos h13, if_pos h13]
    refine ⟨Or.inl, fun q => q.elim (fun q => q) (fun q => ?_)⟩
    rw [q, enc_mod (by omega)] at h13
    exact absurd h13 hk.2
  · rw [if_neg h13, if_neg h13]
    by_cases hi : id % 64 = k
    · rw [if_pos hi, hs.1, hi]
      constructor
      · intro q
        by_cases q2 : id / 64 = nt (S.1 10 k)
        · right; unfold enc; omega
        · left; omega
      · rintro (q | q)
        · omega
        · rw [q, enc_div (by omega)]; omega
    · rw [if_neg hi]
      refine ⟨Or.inl, fun q => q.elim (fun q => q) (fun q => ?_)⟩
      rw [q, enc_mod (by omega)] at hi
      exact absurd rfl hi
theorem not_dm (hk : k < 61 ∧ k ≠ 13) : ¬ dm S (enc k (nt (S.1 10 k))) := by
  unfold dm
  rw [enc_mod (by omega), enc_div (by omega), if_neg hk.2]
  exact Nat.lt_irrefl _
theorem ar_oc {S' : Sg} (h : ∀ c i, oc c = false → S'.1 c i = S.1 c i) {kd i : Nat} : ar X S' kd i = ar X S kd i := by
  unfold ar
  rw [h 58 i (by decide), h 14 i (by decide), h 16 i (by decide), h 17 i (by decide)]
  have e1 : (fun j' => S'.1 (1000 + 2 * i) j') = fun j' => S.1 (1000 + 2 * i) j' := funext fun q => h _ _ (oc_big (by omega))
  have e2 : (fun j' => S'.1 (1001 + 2 * i) j') = fun j' => S.1 (1001 + 2 * i) j' := funext fun q => h _ _ (oc_big (by omega))
  have hm : 99 ≤ mCol i ∧ mCol i < 200 := by unfold mCol; split <;> omega
  have hoc : oc (mCol i) = false := by
    unfold oc
    rw [decide_eq_false (show ¬ (mCol i < 99) by omega), decide_eq_false (show ¬ (200 ≤ mCol i) by omega)]
    simp
  have e3 : (fun j' => S'.1 (mCol i) j') = fun j' => S.1 (mCol i) j' := funext fun q => h _ _ hoc
  have e4 : S'.1 95 i = S.1 95 i := h 95 i (by decide)
  rw [e1, e2, e3, e4]
theorem fdOK_1 (hf : fdOK fds = true) {d : Fd3} (hd : d ∈ fds) : (d.1 = 0 ∨ d.1 = 2) ∧ oc d.2.1 = true ∧ d.2.1 ≠ 10 ∧ d.2.1 ≠ 15 := by
  unfold fdOK at hf
  simp only [Bool.and_eq_true] at hf
  have h := List.all_eq_true.mp hf.1.1 d hd
  simp only [Bool.and_eq_true, Bool.or_eq_true, beq_iff_eq, bne_iff_ne] at h
  exact ⟨h.1.1.1, h.1.1.2, h.1.2, h.2⟩
theorem fdOK_2 (hf : fdOK fds = true) {d d' : Fd3} (hd : d ∈ fds) (hd' : d' ∈ fds) (e : d.2.1 = d'.2.1) : d.1 = d'.1 := by
  unfold fdOK at hf
  simp only [Bool.and_eq_true] at hf
  have h := List.all_eq_true.mp (List.all_eq_true.mp hf.1.2 d hd) d' hd'
  simp only [Bool.or_eq_true, beq_iff_eq, bne_iff_ne] at h
  exact h.elim (fun q => absurd e q) (fun q => q)
theorem nu_d0 (hf : fdOK fds = true) {d : Fd3} (hd : d ∈ fds) : dv (nu S k N fds) (nt (S.1 10 k)) d = d0 d := by
  obtain ⟨h1, -, h3, -⟩ := fdOK_1 hf hd
  unfold dv d0
  rcases h1 with h1 | h1
  · rw [if_pos h1, if_pos h1, nu_0 h3 (List.any_eq_true.mpr ⟨d, hd, by simp [h1]⟩)]
  · rw [if_neg (by omega), if_neg (by omega), if_neg (by omega), nu_2 h3 (List.any_eq_true.mpr ⟨d, hd, by simp [h1]⟩) ?_, rf_null]
    rw [Bool.eq_false_iff]
    intro q
    obtain ⟨d', hd', hq⟩ := List.any_eq_true.mp q
    simp only [Bool.and_eq_true, beq_iff_eq] at hq
    have := fdOK_2 hf hd' hd hq.2
    omega
theorem LI_nu (hf : fdOK fds = true) (hb : S.2.1 + 1 ≤ nB1) (hk2 : k ≠ 2) (hl : LI S) : LI (nu S k N fds) := by
  refine ⟨fun i => ?_, fun j => ?_⟩
  · rw [nu_10]
    show _ ∧ _ ≤ S.2.1 + 1
    have hc := hl.1 k
    have hs := nt_succ hc.1 (by have := hc.2; unfold nB1 at hb; omega)
    split
    · rw [hs.1]; exact ⟨hs.2, by omega⟩
    · exact ⟨(hl.1 i).1, Nat.le_succ_of_le (hl.1 i).2⟩
  · have e10 : (nu S k N fds).1 10 2 = S.1 10 2 := by rw [nu_10, if_neg (Ne.symm hk2)]
    have hne : ∀ c i, c = 14 ∨ c = 16 ∨ c = 17 → (nu S k N fds).1 c i = S.1 c i := by
      intro c i h9
      refine nu_ne (by omega) (Or.inr fun d hd _ e => ?_)
      have := (fdOK_1 hf hd).2.1
      rw [e] at this
      rcases h9 with rfl | rfl | rfl <;> exact absurd this (by decide)
    rw [e10, hne 16 _ (by omega), hne 17 _ (by omega), hne 14 _ (by omega)]
    by_cases hj : j = nt (S.1 10 k)
    · have h3 : fdOK fds = true := hf
      unfold fdOK at h3
      simp only [Bool.and_eq_true, Bool.or_eq_true, Bool.not_eq_true'] at h3
      rcases h3.2 with ⟨q1, q2⟩ | ⟨q1, q2⟩
      · have z : ∀ c, (fds.any fun d => d.2.1 == c) = false → ∀ d ∈ fds, d.1 = 0 ∨ d.1 = 2 → d.2.1 ≠ c := by
          intro c hc d hd _ e
          have : (fds.any fun d => d.2.1 == c) = true := List.any_eq_true.mpr ⟨d, hd, by simp [e]⟩
          rw [hc] at this
          cases this
        rw [nu_ne (c := 13) (by decide) (Or.inr (z 13 q2)), nu_ne (c := 12) (by decide) (Or.inr (z 12 q1))]
        exact hl.2 j
      · left
        obtain ⟨d, hd, hq⟩ := List.any_eq_true.mp q2
        simp only [Bool.and_eq_true, beq_iff_eq] at hq
        rw [hj, nu_0 (by decide) q1, nu_2 (by decide) q2 ?_]
        · exact ⟨by decide, rfl⟩
        · rw [Bool.eq_false_iff]
          intro q
          obtain ⟨d', hd', hq'⟩ := List.any_eq_true.mp q
          simp only [Bool.and_eq_true, beq_iff_eq] at hq'
          have := fdOK_2 hf hd' hd (hq'.2.trans hq.2.symm)
          omega
    · rw [nu_ne (c := 13) (by decide) (Or.inl hj), nu_ne (c := 12) (by decide) (Or.inl hj)]
      exact hl.2 j
theorem newS_obj (hT : xT X = tb) (hok : tbOK tb = true) (ha : tbArr tb) (hn : tbN tb) (hl : LI S) (hb : S.2.1 + 1 ≤ nB1) (h : tb.lookup k = some (ci, fds)) (hk : k < 61 ∧ k ≠ 13) (hf : fdOK fds = true) : newS X S (nu S k N fds) (enc k (nt (S.1 10 k))) N (.inr (ci, fds.map d0)) := by
  have hk2 : k ≠ 2 := fun e => by rw [e, ha.2.2.2.2.2] at h; cases h
  have h15 : ∀ i, (nu S k N fds).1 15 i = S.1 15 i := fun i => nu_ne (by decide) (Or.inr fun d hd _ => (fdOK_1 hf hd).2.2.2)
  refine ⟨rfl, dm_nu hl hb (fun i => nu_10) h15 hk, not_dm hk, ?_, fun id hid => ?_, fun v hv => ?_, LI_nu hf hb hk2⟩
  · rw [ct_obj hT h (by omega)]
    show Sum.inr (_, _) = Sum.inr (_, _)
    congr 2
    exact List.map_congr_left fun d hd => nu_d0 hf hd
  · have hm : id % 64 < 64 := Nat.mod_lt _ (by decide)
    rw [enc_self (id := id) rfl]
    cases hlk : tb.lookup (id % 64) with
    | none =>
      rw [ct_arr hT hlk hm, ct_arr hT hlk hm]
      refine ar_oc fun c i hc => nu_ne (fun e => by rw [e] at hc; exact absurd hc (by decide)) (Or.inr fun d hd _ e => ?_)
      have := (fdOK_1 hf hd).2.1
      rw [e, hc] at this
      cases this
    | some q =>
      obtain ⟨ci', fds'⟩ := q
      rw [ct_obj hT hlk hm, ct_obj hT hlk hm]
      show Sum.inr (_, _) = Sum.inr (_, _)
      congr 2
      refine List.map_congr_left fun d' hd' => ?_
      have key : d'.1 = 1 ∨ (nu S k N fds).1 d'.2.1 (id / 64) = S.1 d'.2.1 (id / 64) := by
        by_cases e1 : d'.1 = 1
        · exact Or.inl e1
        · right
          obtain ⟨k', hk'⟩ := List.getElem?_of_mem hd'
          have hmem := tbCols_mem hlk hk' e1
          refine nu_ne (hn _ hmem).1 ?_
          by_cases hi : id / 64 = nt (S.1 10 k)
          · right
            intro d hd hd1 e
            obtain ⟨k9, hk9⟩ := List.getElem?_of_mem hd
            have := tb_once hok h hk9 (by omega) hlk hk' e1 e.symm
            refine not_dm (S := S) hk ?_
            have e3 : id = enc k (nt (S.1 10 k)) := by rw [enc_self (id := id) this.1, hi]
            rw [← e3]; exact hid
          · exact Or.inl hi
      unfold dv
      rcases key with e1 | e1
      · simp [e1]
      · rw [e1]
  · obtain ⟨d, hd, e⟩ := List.mem_map.mp hv
    rw [← e]
    unfold d0
    split <;> trivial
end NN
section NR
variable {X : Cx} {S S' : Sg} {tb : Tb}
theorem newS_arr (hT : xT X = tb) (hn : tbN tb) (ha : tbArr tb) {k a n : Nat} {e9 : va_E} (hlk : tb.lookup k = none) (hk : k < 64) (h2 : S'.2 = (S.2.1 + 1, S.2.2 + n)) (hdm : ∀ i, dm S' i ↔ dm S i ∨ i = enc k a) (hnd : ¬ dm S (enc k a)) (hco : ∀ c i, oc c = true → c ≠ 10 → c ≠ 15 → S'.1 c i = S.1 c i)
    (he : ar X S' k a = e9) (ho : ∀ kd i, kd ≠ k ∨ i ≠ a → dm S (enc kd i) → ar X S' kd i = ar X S kd i) (hoe : okE S' e9) (hLI : LI S → LI S') : newS X S S' (enc k a) n e9 := by
  refine ⟨h2, hdm, hnd, by rw [ct_arr hT hlk hk]; exact he, fun id hid => ?_, hoe, hLI⟩
  have hm : id % 64 < 64 := Nat.mod_lt _ (by decide)
  rw [enc_self (id := id) rfl]
  cases h : tb.lookup (id % 64) with
  | none =>
    rw [ct_arr hT h hm, ct_arr hT h hm]
    refine ho _ _ ?_ (by rw [← enc_self rfl]; exact hid)
    by_cases q : id % 64 = k
    · right
      intro q2
      refine hnd ?_
      rw [← q, ← q2, ← enc_self rfl]; exact hid
    · exact Or.inl q
  | some q =>
    obtain ⟨ci', fds'⟩ := q
    rw [ct_obj hT h hm, ct_obj hT h hm]
    show Sum.inr (_, _) = Sum.inr (_, _)
    congr 2
    refine List.map_congr_left fun d' hd' => ?_
    by_cases e1 : d'.1 = 1
    · unfold dv; simp [e1]
    · obtain ⟨k', hk'⟩ := List.getElem?_of_mem hd'
      have hmem := tbCols_mem h hk' e1
      unfold dv
      rw [hco _ _ (ha.1 _ hmem) (hn _ hmem).1 (hn _ hmem).2]
def npl (S : Sg) (x : Int32) : Sg := (fun c i => if c = 10 then (if i = 10 then S.1 10 10 + 1 else S.1 10 i) else if c = 58 ∧ i = nt (S.1 10 10) then x else if c = 1000 + 2 * nt (S.1 10 10) then 0 else S.1 c i, S.2.1 + 1, S.2.2 + nt x)
def nag (S : Sg) : Sg := (fun c i => if c = 10 then (if i = 11 then S.1 10 11 + 1 else S.1 10 i) else if c = 1001 + 2 * nt (S.1 10 11) then 0 else S.1 c i, S.2.1 + 1, S.2.2 + 40)
def nou (S : Sg) : Sg := (fun c i => if c = 10 then (if i = 14 then S.1 10 14 + 1 else S.1 10 i) else if c = 95 then 0 else S.1 c i, S.2.1 + 1, S.2.2 + 1)
def nrw (S : Sg) (o : Nat) (x : Int32) : Sg := (fun c i => if c = 10 then (if i = 2 then S.1 10 2 + 1 else S.1 10 i) else if c = 14 ∧ i = nt (S.1 10 2) then x else if c = 16 ∧ i = nt (S.1 10 2) then nI o else if c = 17 ∧ i = nt (S.1 10 2) then 0 else S.1 c i, S.2.1 + 1, S.2.2 + nt x)
def nmd (S : Sg) (j : Nat) : Sg := (fun c i => if c = 15 ∧ i = j then 1 else if c = 100 + j then 0 else S.1 c i, S.2.1 + 1, S.2.2 + mLen j)
theorem LI_cnt {k : Nat} (hb : S.2.1 + 1 ≤ nB1) (h2 : S'.2.1 = S.2.1 + 1) (h10 : ∀ i, S'.1 10 i = if i = k then S.1 10 k + 1 else S.1 10 i) (hl : LI S) (i : Nat) : ¬ S'.1 10 i < 0 ∧ nt (S'.1 10 i) ≤ S'.2.1 := by
  rw [h10, h2]
  have hc := hl.1 k
  have hs := nt_succ hc.1 (by have := hc.2; unfold nB1 at hb; omega)
  split
  · rw [hs.1]; exact ⟨hs.2, by omega⟩
  · exact ⟨(hl.1 i).1, Nat.le_succ_of_le (hl.1 i).2⟩
theorem LI_same {k : Nat} (hk2 : k ≠ 2) (hb : S.2.1 + 1 ≤ nB1) (h2 : S'.2.1 = S.2.1 + 1) (h10 : ∀ i, S'.1 10 i = if i = k then S.1 10 k + 1 else S.1 10 i) (hc : ∀ c i, c = 12 ∨ c = 13 ∨ c = 14 ∨ c = 16 ∨ c = 17 → S'.1 c i = S.1 c i) (hl : LI S) : LI S' := by
  refine ⟨LI_cnt hb h2 h10 hl, fun j => ?_⟩
  have e10 : S'.1 10 2 = S.1 10 2 := by rw [h10, if_neg (Ne.symm hk2)]
  rw [e10, hc 13 _ (by omega), hc 12 _ (by omega), hc 16 _ (by omega), hc 17 _ (by omega), hc 14 _ (by omega)]
  exact hl.2 j
theorem npl_ne {x : Int32} {c i : Nat} (h : c ≠ 10) (h58 : c ≠ 58 ∨ i ≠ nt (S.1 10 10)) (h1 : c ≠ 1000 + 2 * nt (S.1 10 10)) : (npl S x).1 c i = S.1 c i := by
  show (if c = 10 then _ else if c = 58 ∧ i = nt (S.1 10 10) then x else if c = 1000 + 2 * nt (S.1 10 10) then 0 else S.1 c i) = _
  rw [if_neg h, if_neg (fun q => h58.elim (fun w => w q.1) (fun w => w q.2)), if_neg h1]
theorem npl_58 {x : Int32} : (npl S x).1 58 (nt (S.1 10 10)) = x := by
  simp [npl]
theorem npl_z {x : Int32} {i : Nat} : (npl S x).1 (1000 + 2 * nt (S.1 10 10)) i = 0 := by
  show (if 1000 + 2 * nt (S.1 10 10) = 10 then _ else if 1000 + 2 * nt (S.1 10 10) = 58 ∧ _ then x else if 1000 + 2 * nt (S.1 10 10) = 1000 + 2 * nt (S.1 10 10) then 0 else _) = _
  rw [if_neg (by omega), if_neg (by omega), if_pos rfl]
theorem newS_pl (hT : xT X = tb) (hn : tbN tb) (ha : tbArr tb) (hl : LI S) (hb : S.2.1 + 1 ≤ nB1) {x : Int32} : newS X S (npl S x) (enc 10 (nt (S.1 10 10))) (nt x) (.inl (xI X, nt x, .inl (fun _ => 0))) := by
  refine newS_arr hT hn ha ha.2.1 (by decide) rfl (dm_nu hl hb (fun i => rfl) (fun i => npl_ne (by decide) (Or.inl (by decide)) (by omega)) (by decide)) (not_dm (by decide)) (fun c i hc h1 h5 => npl_ne h1 (Or.inl (fun e => by rw [e] at hc; exact absurd hc (by decide))) (fun e => by rw [e, oc_big (by omega)] at hc; cases hc)) ?_ (fun kd i h hd => ?_) trivial (LI_same (k := 10) (by decide) hb rfl (fun i => rfl) (fun c i h => npl_ne (by omega) (Or.inl (by omega)) (by omega)))
  · show Sum.inl (xI X, nt ((npl S x).1 58 (nt (S.1 10 10))), Sum.inl (fun j => (npl S x).1 (1000 + 2 * nt (S.1 10 10)) j)) = _
    rw [npl_58]
    congr 4
    funext j
    exact npl_z
  · unfold ar
    rw [npl_ne (c := 14) (by decide) (Or.inl (by decide)) (by omega), npl_ne (c := 16) (by decide) (Or.inl (by decide)) (by omega), npl_ne (c := 17) (by decide) (Or.inl (by decide)) (by omega)]
    have e2 : (fun j' => (npl S x).1 (1001 + 2 * i) j') = fun j' => S.1 (1001 + 2 * i) j' := funext fun q => npl_ne (by omega) (Or.inl (by omega)) (by omega)
    have hm : 99 ≤ mCol i ∧ mCol i < 200 := by unfold mCol; split <;> omega
    have e3 : (fun j' => (npl S x).1 (mCol i) j') = fun j' => S.1 (mCol i) j' := funext fun q => npl_ne (by omega) (Or.inl (by omega)) (by omega)
    have e4 : (npl S x).1 95 i = S.1 95 i := npl_ne (by decide) (Or.inl (by decide)) (by omega)
    rw [e2, e3, e4]
    by_cases hk : kd = 10
    · have hi : i ≠ nt (S.1 10 10) := fun e => h.elim (fun q => q hk) (fun q => q e)
      have e1 : (fun j' => (npl S x).1 (1000 + 2 * i) j') = fun j' => S.1 (1000 + 2 * i) j' := funext fun q => npl_ne (by omega) (Or.inl (by omega)) (by omega)
      rw [e1, npl_ne (c := 58) (by decide) (Or.inr hi) (by omega)]
    · rw [if_neg hk, if_neg hk]
theorem nag_ne {c i : Nat} (h : c ≠ 10) (h1 : c ≠ 1001 + 2 * nt (S.1 10 11)) : (nag S).1 c i = S.1 c i := by
  show (if c = 10 then _ else if c = 1001 + 2 * nt (S.1 10 11) then 0 else S.1 c i) = _
  rw [if_neg h, if_neg h1]
theorem nag_z {i : Nat} : (nag S).1 (1001 + 2 * nt (S.1 10 11)) i = 0 := by
  show (if 1001 + 2 * nt (S.1 10 11) = 10 then _ else if 1001 + 2 * nt (S.1 10 11) = 1001 + 2 * nt (S.1 10 11) then 0 else _) = _
  rw [if_neg (by omega), if_pos rfl]
theorem newS_ag (hT : xT X = tb) (hn : tbN tb) (ha : tbArr tb) (hl : LI S) (hb : S.2.1 + 1 ≤ nB1) : newS X S (nag S) (enc 11 (nt (S.1 10 11))) 40 (.inl (xI X, 40, .inl (fun _ => 0))) := by
  refine newS_arr hT hn ha ha.2.2.1 (by decide) rfl (dm_nu hl hb (fun i => rfl) (fun i => nag_ne (by decide) (by omega)) (by decide)) (not_dm (by decide)) (fun c i hc h1 h5 => nag_ne h1 (fun e => by rw [e, oc_big (by omega)] at hc; cases hc)) ?_ (fun kd i h hd => ?_) trivial (LI_same (k := 11) (by decide) hb rfl (fun i => rfl) (fun c i h => nag_ne (by omega) (by omega)))
  · show Sum.inl (xI X, 40, Sum.inl (fun j => (nag S).1 (1001 + 2 * nt (S.1 10 11)) j)) = _
    congr 4
    funext j
    exact nag_z
  · unfold ar
    rw [nag_ne (c := 58) (by decide) (by omega), nag_ne (c := 14) (by decide) (by omega), nag_ne (c := 16) (by decide) (by omega), nag_ne (c := 17) (by decide) (by omega)]
    have e2 : (fun j' => (nag S).1 (1000 + 2 * i) j') = fun j' => S.1 (1000 + 2 * i) j' := funext fun q => nag_ne (by omega) (by omega)
    have hm : 99 ≤ mCol i ∧ mCol i < 200 := by unfold mCol; split <;> omega
    have e3 : (fun j' => (nag S).1 (mCol i) j') = fun j' => S.1 (mCol i) j' := funext fun q => nag_ne (by omega) (by omega)
    have e4 : (nag S).1 95 i = S.1 95 i := nag_ne (by decide) (by omega)
    rw [e2, e3, e4]
    by_cases hk : kd = 11
    · have hi : i ≠ nt (S.1 10 11) := fun e => h.elim (fun q => q hk) (fun q => q e)
      have e1 : (fun j' => (nag S).1 (1001 + 2 * i) j') = fun j' => S.1 (1001 + 2 * i) j' := funext fun q => nag_ne (by omega) (by omega)
      rw [e1]
    · rw [if_neg hk, if_neg hk]
theorem nou_ne {c i : Nat} (h : c ≠ 10) (h1 : c ≠ 95) : (nou S).1 c i = S.1 c i := by
  show (if c = 10 then _ else if c = 95 then 0 else S.1 c i) = _
  rw [if_neg h, if_neg h1]
theorem nou_z {i : Nat} : (nou S).1 95 i = 0 := by simp [nou]
theorem newS_ou (hT : xT X = tb) (hn : tbN tb) (ha : tbArr tb) (hl : LI S) (hb : S.2.1 + 1 ≤ nB1) (h0 : S.1 10 14 = 0) : newS X S (nou S) (enc 14 0) 1 (.inl (xL X, 1, .inr (.inl (fun _ => 0)))) := by
  have e0 : enc 14 0 = enc 14 (nt (S.1 10 14)) := by rw [h0]; rfl
  rw [e0]
  refine newS_arr hT hn ha ha.2.2.2.2.1 (by decide) rfl (dm_nu hl hb (fun i => rfl) (fun i => nou_ne (by decide) (by decide)) (by decide)) (not_dm (by decide)) (fun c i hc h1 h5 => nou_ne h1 (fun e => by rw [e] at hc; exact absurd hc (by decide))) ?_ (fun kd i h hd => ?_) trivial (LI_same (k := 14) (by decide) hb rfl (fun i => rfl) (fun c i h => nou_ne (by omega) (by omega)))
  · have e5 : (fun (j : Nat) => if j = 0 then ((nou S).1 95 (nt (S.1 10 14))).toInt64 else (0 : Int64)) = fun _ => 0 := by
      funext j
      rw [nou_z]
      split <;> rfl
    show Sum.inl (xL X, 1, Sum.inr (Sum.inl (fun j => if j = 0 then ((nou S).1 95 (nt (S.1 10 14))).toInt64 else 0))) = _
    rw [e5]
  · unfold ar
    have e1 : (fun j' => (nou S).1 (1000 + 2 * i) j') = fun j' => S.1 (1000 + 2 * i) j' := funext fun q => nou_ne (by omega) (by omega)
    have e2 : (fun j' => (nou S).1 (1001 + 2 * i) j') = fun j' => S.1 (1001 + 2 * i) j' := funext fun q => nou_ne (by omega) (by omega)
    have hm : 99 ≤ mCol i ∧ mCol i < 200 := by unfold mCol; split <;> omega
    have e3 : (fun j' => (nou S).1 (mCol i) j') = fun j' => S.1 (mCol i) j' := funext fun q => nou_ne (by omega) (by omega)
    rw [e1, e2, e3, nou_ne (c := 58) (by decide) (by decide), nou_ne (c := 14) (by decide) (by decide), nou_ne (c := 16) (by decide) (by decide), nou_ne (c := 17) (by decide) (by decide)]
    by_cases hk : kd = 14
    · exfalso
      unfold dm at hd
      rw [hk, enc_mod (by decide), enc_div (by decide), if_neg (by decide), h0] at hd
      exact absurd hd (Nat.not_lt_zero _)
    · rw [if_neg hk, if_neg hk]
theorem nrw_ne {o : Nat} {x : Int32} {c i : Nat} (h : c ≠ 10) (h1 : (c ≠ 14 ∧ c ≠ 16 ∧ c ≠ 17) ∨ i ≠ nt (S.1 10 2)) : (nrw S o x).1 c i = S.1 c i := by
  show (if c = 10 then _ else if c = 14 ∧ i = nt (S.1 10 2) then x else if c = 16 ∧ i = nt (S.1 10 2) then nI o else if c = 17 ∧ i = nt (S.1 10 2) then 0 else S.1 c i) = _
  rw [if_neg h]
  rcases h1 with ⟨a, b, d⟩ | h1
  · rw [if_neg (fun q => a q.1), if_neg (fun q => b q.1), if_neg (fun q => d q.1)]
  · rw [if_neg (fun q => h1 q.2), if_neg (fun q => h1 q.2), if_neg (fun q => h1 q.2)]
theorem nrw_14 {o : Nat} {x : Int32} : (nrw S o x).1 14 (nt (S.1 10 2)) = x := by simp [nrw]
theorem nrw_16 {o : Nat} {x : Int32} : (nrw S o x).1 16 (nt (S.1 10 2)) = nI o := by simp [nrw]
theorem nrw_17 {o : Nat} {x : Int32} : (nrw S o x).1 17 (nt (S.1 10 2)) = 0 := by simp [nrw]
theorem LI_nrw {o : Nat} {x : Int32} (hb : S.2.1 + 1 ≤ nB1) (hl : LI S) : LI (nrw S o x) := by
  refine ⟨LI_cnt (k := 2) hb rfl (fun i => rfl) hl, fun j => ?_⟩
  have hc := hl.1 2
  have hs := nt_succ hc.1 (by have := hc.2; unfold nB1 at hb; omega)
  rw [nrw_ne (c := 13) (by decide) (Or.inl (by decide)), nrw_ne (c := 12) (by decide) (Or.inl (by decide))]
  rcases hl.2 j with q | ⟨q1, q2, q3, q4, q5, q6, q7⟩
  · exact Or.inl q
  · right
    have hj : nt (S.1 13 j) ≠ nt (S.1 10 2) := by omega
    have e10 : (nrw S o x).1 10 2 = S.1 10 2 + 1 := rfl
    rw [e10, hs.1, nrw_ne (c := 16) (by decide) (Or.inr hj), nrw_ne (c := 17) (by decide) (Or.inr hj), nrw_ne (c := 14) (by decide) (Or.inr hj)]
    exact ⟨q1, by omega, q3, q4, q5, q6, q7⟩
theorem newS_rw (hT : xT X = tb) (hn : tbN tb) (ha : tbArr tb) (hl : LI S) (hb : S.2.1 + 1 ≤ nB1) {o : Nat} {x : Int32} : newS X S (nrw S o x) (enc 2 (nt (S.1 10 2))) (nt x) (.inl (xO X, QA (nt x) (fun _ => none))) := by
  have hoc : ∀ c, oc c = true → c ≠ 14 ∧ c ≠ 16 ∧ c ≠ 17 := fun c hc => ⟨fun e => by rw [e] at hc; exact absurd hc (by decide), fun e => by rw [e] at hc; exact absurd hc (by decide), fun e => by rw [e] at hc; exact absurd hc (by decide)⟩
  refine newS_arr hT hn ha ha.2.2.2.2.2 (by decide) rfl (dm_nu hl hb (fun i => rfl) (fun i => nrw_ne (by decide) (Or.inl (by decide))) (by decide)) (not_dm (by decide)) (fun c i hc h1 h5 => nrw_ne h1 (Or.inl (hoc c hc))) ?_ (fun kd i h hd => ?_) (fun t a h => by cases h) (LI_nrw hb)
  · show Sum.inl (xO X, nt ((nrw S o x).1 14 (nt (S.1 10 2))), Sum.inr (Sum.inr (Sum.inr (Sum.inr (fun t => if t < nt ((nrw S o x).1 17 (nt (S.1 10 2))) then some (enc (3 + nt ((nrw S o x).1 16 (nt (S.1 10 2)))) t) else none))))) = _
    rw [nrw_14, nrw_17]
    congr 7
  · unfold ar
    have e1 : (fun j' => (nrw S o x).1 (1000 + 2 * i) j') = fun j' => S.1 (1000 + 2 * i) j' := funext fun q => nrw_ne (by omega) (Or.inl (by omega))
    have e2 : (fun j' => (nrw S o x).1 (1001 + 2 * i) j') = fun j' => S.1 (1001 + 2 * i) j' := funext fun q => nrw_ne (by omega) (Or.inl (by omega))
    have hm : 99 ≤ mCol i ∧ mCol i < 200 := by unfold mCol; split <;> omega
    have e3 : (fun j' => (nrw S o x).1 (mCol i) j') = fun j' => S.1 (mCol i) j' := funext fun q => nrw_ne (by omega) (Or.inl (by omega))
    have e4 : (nrw S o x).1 95 i = S.1 95 i := nrw_ne (by decide) (Or.inl (by decide))
    rw [e1, e2, e3, e4, nrw_ne (c := 58) (by decide) (Or.inl (by decide))]
    by_cases hk : kd = 2
    · have hi : i ≠ nt (S.1 10 2) := fun e => h.elim (fun q => q hk) (fun q => q e)
      rw [nrw_ne (c := 14) (by decide) (Or.inr hi), nrw_ne (c := 16) (by decide) (Or.inr hi), nrw_ne (c := 17) (by decide) (Or.inr hi)]
    · rw [if_neg hk, if_neg hk]
theorem nmd_ne {j c i : Nat} (h : c ≠ 15 ∨ i ≠ j) (h1 : c ≠ 100 + j) : (nmd S j).1 c i = S.1 c i := by
  show (if c = 15 ∧ i = j then 1 else if c = 100 + j then 0 else S.1 c i) = _
  rw [if_neg (fun q => h.elim (fun w => w q.1) (fun w => w q.2)), if_neg h1]
theorem newS_md (hT : xT X = tb) (hn : tbN tb) (ha : tbArr tb) {j : Nat} (hj : j < 43) (h0 : S.1 15 j ≠ 1) {cA : ClassId} (hz : (if mZ j then xZ X else xI X) = cA) : newS X S (nmd S j) (enc 13 j) (mLen j) (.inl (cA, mLen j, .inl (fun _ => 0))) := by
  have hm : mCol j = 100 + j := if_pos (by omega)
  have e15 : ∀ i, (nmd S j).1 15 i = if i = j then 1 else S.1 15 i := by
    intro i
    by_cases h : i = j
    · rw [if_pos h]; simp [nmd, h]
    · rw [if_neg h, nmd_ne (Or.inr h) (by omega)]
  have hoc : ∀ c, c ≠ 15 → (100 ≤ c → 143 ≤ c) → ∀ i, (nmd S j).1 c i = S.1 c i := fun c h1 h2 i => nmd_ne (Or.inl h1) (by omega)
  refine newS_arr hT hn ha ha.2.2.2.1 (by decide) rfl (fun id => ?_) ?_ (fun c i hc h1 h5 => nmd_ne (Or.inl h5) (fun e => ?_)) ?_ (fun kd i h hd => ?_) trivial (fun hl => ⟨fun k => ?_, fun i => ?_⟩)
  · unfold dm
    rw [e15, hoc 10 (by decide) (by decide)]
    by_cases h13 : id % 64 = 13
    · rw [if_pos h13, if_pos h13]
      by_cases hi : id / 64 = j
      · rw [if_pos hi]
        exact ⟨fun _ => Or.inr (by unfold enc; omega), fun _ => rfl⟩
      · rw [if_neg hi]
        refine ⟨Or.inl, fun q => q.elim (fun q => q) (fun q => ?_)⟩
        rw [q, enc_div (by decide)] at hi
        exact absurd rfl hi
    · rw [if_neg h13, if_neg h13]
      refine ⟨Or.inl, fun q => q.elim (fun q => q) (fun q => ?_)⟩
      rw [q, enc_mod (by decide)] at h13
      exact absurd rfl h13
  · unfold dm
    rw [enc_mod (by decide), enc_div (by decide), if_pos rfl]
    exact h0
  · rw [e] at hc
    unfold oc at hc
    rw [decide_eq_false (show ¬ (100 + j < 99) by omega), decide_eq_false (show ¬ (200 ≤ 100 + j) by omega)] at hc
    simp at hc
  · subst hz
    show Sum.inl ((if mZ j then xZ X else xI X), mLen j, Sum.inl (fun q => (nmd S j).1 (mCol j) q)) = _
    congr 4
    funext q
    rw [hm]
    show (if 100 + j = 15 ∧ q = j then 1 else if 100 + j = 100 + j then 0 else _) = _
    rw [if_neg (by omega), if_pos rfl]
  · unfold ar
    have e1 : (fun j' => (nmd S j).1 (1000 + 2 * i) j') = fun j' => S.1 (1000 + 2 * i) j' := funext fun q => hoc _ (by omega) (by omega) q
    have e2 : (fun j' => (nmd S j).1 (1001 + 2 * i) j') = fun j' => S.1 (1001 + 2 * i) j' := funext fun q => hoc _ (by omega) (by omega) q
    have e4 : (nmd S j).1 95 i = S.1 95 i := hoc 95 (by decide) (by decide) i
    rw [e1, e2, e4, hoc 58 (by decide) (by decide), hoc 14 (by decide) (by decide), hoc 16 (by decide) (by decide), hoc 17 (by decide) (by decide)]
    by_cases hk : kd = 13
    · have hi : i ≠ j := fun e => h.elim (fun q => q hk) (fun q => q e)
      have e3 : (fun j' => (nmd S j).1 (mCol i) j') = fun j' => S.1 (mCol i) j' := funext fun q => nmd_ne (Or.inl (by unfold mCol; split <;> omega)) (by unfold mCol; split <;> omega)
      rw [e3]
    · rw [if_neg hk, if_neg hk]
  · rw [hoc 10 (by decide) (by decide)]
    exact ⟨(hl.1 k).1, Nat.le_succ_of_le (hl.1 k).2⟩
  · rw [hoc 13 (by decide) (by decide), hoc 12 (by decide) (by decide), hoc 10 (by decide) (by decide), hoc 16 (by decide) (by decide), hoc 17 (by decide) (by decide), hoc 14 (by decide) (by decide)]
    exact hl.2 i
end NR
section NV
variable {X : Cx} {K : KL} {p : Program} {l : Launch} {e : Env} {R : Room} {s : State} {m : MethodId} {args : Array Value} {below : List Frame} {meth : Method} {c : Code} {nL fr lo : Nat} {Q : State → Prop} {S0 S : Sg} {ad0 : Nat → Nat}
variable {cc : ByteArray} {own : String} {pc : Nat} {lv : List (Nat × Value)} {st : List Value} {tb : Tb} {index : Nat}
def tbG (tb : Tb) : Prop := tbOK tb = true ∧ tbArr tb ∧ tbN tb
theorem tb1_g : tbG tb1 := ⟨tb1_ok, tb1_arr, tb1_n⟩
theorem tb0_g : tbG tb0 := ⟨tb0_ok, tb0_arr, tb0_n⟩
theorem V_newO (C : Cn X K p l R s m meth c cc own nL fr lo) (hT : xT X = tb) (hg : tbG tb) {k N ci : Nat} {fds : List Fd3} {Cc : String} {T : u_T} {ty0 : Nat → FieldType} (F : CF ci Cc T N ty0) (h : tb.lookup k = some (ci, fds)) (hk : k < 61 ∧ k ≠ 13) (hf : fdOK fds = true) (hfs : ∀ j, j < N → (fds.map d0)[j]? = some (defaultValue (ty0 j))) (hfl : fds.length = N)
    (w1 : Cond.classLink own index Cc ∈ gW) (w2 : Cond.instantiable Cc N ∈ gW) (w3 : Cond.initialized Cc ∈ gW) (hdg : decode cc pc = .ok (.new index, 3)) {A : Prop} (hb : (S.2.1 + 1 ≤ nB1 ∧ S.2.2 + N ≤ nB2) ∧ A) (k9 : A → V X p l e R s m args below meth c nL Q S0 ad0 (nu S k N fds) (pc + 3) (lv) (.ref (enc k (nt (S.1 10 k))) :: st)) : V X p l e R s m args below meth c nL Q S0 ad0 (S) (pc) (lv) (st) :=
  V_LI C fun hl => V_new C F.1 F.2.1 ty0 F.2.2.1 w1 w2 w3 (enc_ne63 hk.1) hfs (by rw [List.length_map]; exact hfl) (newS_obj hT hg.1 hg.2.1 hg.2.2 hl hb.1.1 h hk hf) hb.1 hdg (k9 hb.2)
theorem V_newpl (C : Cn X K p l R s m meth c cc own nL fr lo) (hT : xT X = tb) (hg : tbG tb) {x : Int32} (w1 : Cond.arrayClass .int ∈ gW) (hdg : decode cc pc = .ok (.newarray .int, 2)) {A : Prop} (h : (¬ x < 0 ∧ nt x ≤ 65536 ∧ S.2.1 + 1 ≤ nB1 ∧ S.2.2 + nt x ≤ nB2) ∧ A) (k9 : A → V X p l e R s m args below meth c nL Q S0 ad0 (npl S x) (pc + 2) (lv) (.ref (enc 10 (nt (S.1 10 10))) :: st)) : V X p l e R s m args below meth c nL Q S0 ad0 (S) (pc) (lv) (.int x :: st) :=
  V_LI C fun hl => V_newarr C (atype := .int) (cA := xI X) (a9 := (nt x, .inl (fun _ => 0))) rfl (Or.inl ⟨_, rfl, fun _ => rfl, Or.inl ⟨rfl, rfl⟩⟩) w1 (enc_ne63 (by decide)) h.1.1 rfl h.1.2.1 (newS_pl hT hg.2.2 hg.2.1 hl h.1.2.2.1) h.1.2.2 hdg (k9 h.2)
theorem V_newag (C : Cn X K p l R s m meth c cc own nL fr lo) (hT : xT X = tb) (hg : tbG tb) (w1 : Cond.arrayClass .int ∈ gW) (hdg : decode cc pc = .ok (.newarray .int, 2)) {A : Prop} (h : (S.2.1 + 1 ≤ nB1 ∧ S.2.2 + 40 ≤ nB2) ∧ A) (k9 : A → V X p l e R s m args below meth c nL Q S0 ad0 (nag S) (pc + 2) (lv) (.ref (enc 11 (nt (S.1 10 11))) :: st)) : V X p l e R s m args below meth c nL Q S0 ad0 (S) (pc) (lv) (.int 40 :: st) :=
  V_LI C fun hl => V_newarr C (atype := .int) (cA := xI X) (N := 40) (a9 := (40, .inl (fun _ => 0))) rfl (Or.inl ⟨_, rfl, fun _ => rfl, Or.inl ⟨rfl, rfl⟩⟩) w1 (enc_ne63 (by decide)) (by decide) (by decide) (by decide) (newS_ag hT hg.2.2 hg.2.1 hl h.1.1) h.1 hdg (k9 h.2)
theorem V_newmI (C : Cn X K p l R s m meth c cc own nL fr lo) (hT : xT X = tb) (hg : tbG tb) {j : Nat} {x : Int32} (hj : j < 43) (hz : mZ j = false) (hx : nI (mLen j) = x) (w1 : Cond.arrayClass .int ∈ gW) (hdg : decode cc pc = .ok (.newarray .int, 2)) {A : Prop} (h : (S.1 15 j ≠ 1 ∧ S.2.1 + 1 ≤ nB1 ∧ S.2.2 + mLen j ≤ nB2) ∧ A) (k9 : A → V X p l e R s m args below meth c nL Q S0 ad0 (nmd S j) (pc + 2) (lv) (.ref (enc 13 j) :: st)) : V X p l e R s m args below meth c nL Q S0 ad0 (S) (pc) (lv) (.int x :: st) := by
  have hm : mLen j ≤ 1440 := by unfold mLen; split; decide; split; decide; split; decide; split; decide; split; decide; split; decide; split; decide; split; decide; split <;> decide
  subst hx
  exact V_newarr C (atype := .int) (cA := xI X) (N := mLen j) (a9 := (mLen j, .inl (fun _ => 0))) rfl (Or.inl ⟨_, rfl, fun _ => rfl, Or.inl ⟨rfl, rfl⟩⟩) w1 (enc_ne63 (by decide)) (nI_pos (by omega)) (nt_nI (by omega)) (by omega) (newS_md hT hg.2.2 hg.2.1 hj h.1.1 (by rw [hz]; rfl)) h.1.2 hdg (k9 h.2)
theorem V_newrw (C : Cn X K p l R s m meth c cc own nL fr lo) (hT : xT X = tb) (hg : tbG tb) (o : Nat) {x : Int32} (w1 : Cond.classLink own index "java/lang/Object" ∈ gW) (hdg : decode cc pc = .ok (.anewarray index, 3)) {A : Prop} (h : (¬ x < 0 ∧ nt x ≤ 65536 ∧ S.2.1 + 1 ≤ nB1 ∧ S.2.2 + nt x ≤ nB2) ∧ A) (k9 : A → V X p l e R s m args below meth c nL Q S0 ad0 (nrw S o x) (pc + 3) (lv) (.ref (enc 2 (nt (S.1 10 2))) :: st)) : V X p l e R s m args below meth c nL Q S0 ad0 (S) (pc) (lv) (.int x :: st) := by
  refine V_LI C fun hli => ?_
  intro h1 h2 ad H locs ls hE hW hL z1 z2 hl
  obtain ⟨⟨x0, x1, x2, x3⟩, hA⟩ := h
  have hS' := newS_rw (X := X) (o := o) (x := x) hT hg.2.2 hg.2.1 hli x2
  have KKs := C.2.2.2.2.1
  obtain ⟨w1', w2', w3', w4', w5', w6', -⟩ := And.intro hW.1 hW.2
  obtain ⟨-, -, -, -, -, -, cf, cl, cc1, cc2, -⟩ := And.intro C.1 C.2
  obtain ⟨-, -, -, -, -, -, -, -, -, -, hAO, -⟩ := And.intro KKs.1 KKs.2
  have hNn : x.toNatClampNeg = nt x := rfl
  refine W.anew C.1 C.2.1 C.2.2.2.1 (KK.w KKs w1 args) (va_AO.use hAO) rfl hdg rfl x0 (by rw [hNn]; omega) (by rw [cc1]; omega) (by rw [cc2, hNn]; omega) (fun cA kA comp f1 f2 f3 f4 => ?_)
  have hcA : xO X = cA := by
    obtain ⟨kA', comp', -, -, -, r4⟩ := (KKs.1.2 3 _ rfl).2
    exact Option.some.inj (r4.symm.trans f1)
  rw [hNn]
  have hcellE : ({ cls := cA, slots := Array.replicate (nt x) .null, vm := .none } : Cell) = vp_cell (xO X) (QA (nt x) (fun _ => none)) := by
    rw [vp_cell_q, hcA, ← arrV_new]; rfl
  obtain ⟨hW', hx⟩ := Wd_new (cell := { cls := cA, slots := Array.replicate (nt x) .null, vm := .none }) hW (enc_ne63 (by decide)) x2 x3 (by simp) hS' (fun ad' had => by
    show (H.push _)[H.size]? = some (vp_cell (xO X) (QA (nt x) (fun _ => none)))
    rw [hcellE]
    simp)
  have kk := k9 hA ⟨Or.inr ((hS'.2.1 _).mpr (Or.inr rfl)), ext_okL hx h1.2⟩ (ext_okl hx h2) _ _ locs ls (ext_tr hE hx) hW' hL (by rw [Array.size_push]; omega) (by rw [slotSum_push]; omega) (by rw [ext_lvc hx h2]; exact hl)
  rw [Array.size_push, slotSum_push] at kk
  have e2 : (({ cls := cA, slots := Array.replicate (nt x) .null, vm := .none } : Cell)).slots.size = nt x := by simp
  rw [e2] at kk
  have e3 : (Value.ref (enc 2 (nt (S.1 10 2))) :: st).map (cv fun i => if i = enc 2 (nt (S.1 10 2)) then H.size else ad i) = .ref H.size :: st.map (cv ad) := by
    rw [List.map_cons, ext_map hx h1.2]
    show Value.ref (if _ = _ then H.size else _) :: _ = _
    rw [if_pos rfl]
  rw [e3] at kk
  exact W.cs (by omega) (by omega) kk
end NV
