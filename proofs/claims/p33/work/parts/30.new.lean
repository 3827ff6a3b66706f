/-! new objects, in the plain columns -/
theorem nHall {g : Gm} {S S0 S1 S2 S3 S4 S5 T : Sg} {a b : Int32} (hC : cC S g) (hI : Ia g) (hlt : g 302 0 < 4) (e0 : S0 = nu S 3 5 fdHall) (e1 : S1 = su S0 23 (nt (g 302 0)) 0) (e2 : S2 = su S1 24 (nt (g 302 0)) 5000) (e3 : S3 = su S2 20 (nt (g 302 0)) (g 302 0)) (e4 : S4 = su S3 21 (nt (g 302 0)) a) (e5 : S5 = su S4 22 (nt (g 302 0)) b) (hadd : addR 0 S5 T) : (cCol T (gHall g a b) ∧ cId T (gHall g a b) ∧ cSc T (gHall g a b) ∧ cRow T) ∧ (∀ c i, ¬ lsC c → (c ∈ [23, 24, 20, 21, 22] → i ≠ (nt (g 302 0))) → T.1 c i = S.1 c i) ∧ T.2.1 = S.2.1 + 2 ∧ T.2.2 = S.2.2 + 705 ∧ bz T = bz S + 1 ∧ T.1 12 0 = g 302 0 + 1 := by
  have hb : 0 ≤ g 302 0 ∧ g 302 0 ≤ 400 := by obtain ⟨h1, h2, h3, h4, h5, h6, h7, h8, h9, h10, h11, h12, h13, h14, h15, h16⟩ := ia_n hI; constructor <;> lia
  have ek : S.1 10 3 = g 302 0 := c_10_3 hC
  have hA : ∀ c i, c ≠ 10 → (c ∈ [23, 24, 20, 21, 22] → i ≠ (nt (g 302 0))) → S5.1 c i = S.1 c i := fun c i h1 h3 => by
    have hh : c ∉ [23, 24, 20, 21, 22] ∨ i ≠ (nt (g 302 0)) := by by_cases q : c ∈ [23, 24, 20, 21, 22]; exact Or.inr (h3 q); exact Or.inl q
    rw [e5, suK hh (by decide), e4, suK hh (by decide), e3, suK hh (by decide), e2, suK hh (by decide), e1, suK hh (by decide), e0, nu_ne h1]
    rw [ek]
    refine hh.symm.imp_right (fun q d hd h9 e9 => q ?_)
    have z : ∀ d ∈ fdHall, d.2.1 ∈ [23, 24, 20, 21, 22] := by decide
    rw [← e9]; exact z d hd
  have h10 : ∀ q ∈ scT, q.1 = 10 → S5.1 10 q.2.1 = if q.2.2 = 302 then g 302 0 + 1 else g q.2.2 0 := fun q hq e => by
    have z : ∀ q ∈ scT, q.1 = 10 → (q.2.1 = 3 ↔ q.2.2 = 302) := by decide
    have hh := hC.2.2.1 q hq
    rw [e] at hh
    rw [e5, su_ne (Or.inl (by decide)), e4, su_ne (Or.inl (by decide)), e3, su_ne (Or.inl (by decide)), e2, su_ne (Or.inl (by decide)), e1, su_ne (Or.inl (by decide)), e0, nu_10]
    by_cases q9 : q.2.1 = 3
    · rw [if_pos q9, if_pos ((z q hq e).mp q9), ek]
    · rw [if_neg q9, if_neg (fun q8 => q9 ((z q hq e).mpr q8)), hh]
  have hg : ∀ q ∈ colT, ∀ i, (q.2.2 = 302 → i ≠ (nt (g 302 0))) → (gHall g a b) q.2.1 i = g q.2.1 i := fun q hq i h1 => by
    have z : ∀ q ∈ colT, q.2.2 ≠ 302 → q.2.1 ∉ [103, 104, 106] := by decide
    have z2 : ∀ q ∈ colT, q.2.1 < 300 := by decide
    have z2 := z2 q hq
    have hh : q.2.1 ∉ [103, 104, 106] ∨ i ≠ (nt (g 302 0)) := by by_cases e : q.2.2 = 302; exact Or.inr (h1 e); exact Or.inl (z q hq e)
    unfold gHall
    rw [gu_ne (Or.inl (by omega)), guK hh (by decide), guK hh (by decide), guK hh (by decide)]
  have hz : ∀ c, 300 ≤ c → (gHall g a b) c 0 = if c = 302 then g 302 0 + 1 else g c 0 := fun c hc => by
    unfold gHall
    by_cases e : c = 302
    · rw [if_pos e, e, gu_at]
    · rw [if_neg e, gu_ne (Or.inl e), gu_ne (Or.inl (by omega)), gu_ne (Or.inl (by omega)), gu_ne (Or.inl (by omega))]
  have hn : ∀ q ∈ colT, q.2.2 = 302 → S5.1 q.1 (nt (g 302 0)) = (gHall g a b) q.2.1 (nt (g 302 0)) := fun q hq e => by
    have z : ∀ q ∈ colT, q.2.2 = 302 → q = (21, 103, 302) ∨ q = (22, 104, 302) ∨ q = (23, 105, 302) ∨ q = (24, 106, 302) := by decide
    unfold gHall
    have d0 := ia_hu hI (g 302 0) (by lia) hlt
    rcases z q hq e with rfl | rfl | rfl | rfl <;> simp [e5, e4, e3, e2, e1, su, gu, d0]
  have hi : ∀ q ∈ idT, q.2 = 302 → S5.1 q.1 (nt (g 302 0)) = g 302 0 := fun q hq e => by
    have z : ∀ q ∈ idT, q.2 = 302 → q = (20, 302) := by decide
    rcases z q hq e with rfl <;> simp [e5, e4, e3, e2, e1, su]
  have e2 : S5.2 = (S.2.1 + 1, S.2.2 + 5) := by rw [e5, e4, e3, e2, e1, e0]; rfl
  have e3 : ∀ i, S5.1 12 i = S.1 12 i := fun i => hA 12 i (by decide) (fun q => absurd q (by decide))
  have e4 : S.1 12 0 = g 302 0 := c_12_0 hC
  refine ⟨cNew (K := [23, 24, 20, 21, 22]) (N := 302) (j := 0) hC hb (by refine ⟨?_, ?_, ?_, ?_, ?_⟩ <;> decide) (fun c i h1 _ h3 => hA c i h1 h3) h10 hadd hg hz hn hi, fun c i h1 h2 => ?_, ?_, ?_, bz_add (by decide) hadd e3 (by rw [e4]; exact hb.1) (by rw [e4]; exact hb.2), ?_⟩
  · rw [add_ne hadd h1]; exact hA c i (by unfold lsC at h1; omega) h2
  · rw [hadd.2.2.2.2, e2]
  · rw [hadd.2.2.2.2, e2]
  · rw [hadd.2.2.1, if_pos rfl, e3, e4]
theorem aHall {g : Gm} {S S0 S1 S2 S3 S4 S5 : Sg} {a b : Int32} {Q : Nat → Int32 → Sg → Prop} (hC : cC S g) (hI : Ia g) (hlt : g 302 0 < 4) (e0 : S0 = nu S 3 5 fdHall) (e1 : S1 = su S0 23 (nt (g 302 0)) 0) (e2 : S2 = su S1 24 (nt (g 302 0)) 5000) (e3 : S3 = su S2 20 (nt (g 302 0)) (g 302 0)) (e4 : S4 = su S3 21 (nt (g 302 0)) a) (e5 : S5 = su S4 22 (nt (g 302 0)) b) (hb : S.2.1 + 10 ≤ nB1 ∧ S.2.2 + 1000 ≤ nB2) (hQ : ∀ T, (cCol T (gHall g a b) ∧ cId T (gHall g a b) ∧ cSc T (gHall g a b) ∧ cRow T) → (∀ c i, ¬ lsC c → (c ∈ [23, 24, 20, 21, 22] → i ≠ (nt (g 302 0))) → T.1 c i = S.1 c i) → (∀ c i, (103 ≤ c ∨ c = 57 ∨ c = 58 ∨ c = 81) → T.1 c i = S.1 c i) → T.2.1 = S.2.1 + 2 → T.2.2 = S.2.2 + 705 → bz T = bz S + 1 → T.1 12 0 = g 302 0 + 1 → Q 0 1 T) : w_add 0 (g 302 0) S5 Q := by
  have y9 : S0.1 12 0 = g 302 0 := by rw [e0, nu_ne (by decide) (Or.inr (by decide))]; exact c_12_0 hC
  have ye : S5.2 = (S.2.1 + 1, S.2.2 + 5) := by rw [e5, e4, e3, e2, e1, e0]; rfl
  have y8 : S5.1 12 0 = g 302 0 := by rw [e5, su_ne (Or.inl (by decide)), e4, su_ne (Or.inl (by decide)), e3, su_ne (Or.inl (by decide)), e2, su_ne (Or.inl (by decide)), e1, su_ne (Or.inl (by decide))]; exact y9
  have y7 : S5.1 13 0 = S.1 13 0 := by rw [e5, su_ne (Or.inl (by decide)), e4, su_ne (Or.inl (by decide)), e3, su_ne (Or.inl (by decide)), e2, su_ne (Or.inl (by decide)), e1, su_ne (Or.inl (by decide)), e0, nu_ne (by decide) (Or.inr (by decide))]
  have n0 : 0 ≤ g 302 0 ∧ g 302 0 ≤ 400 := by obtain ⟨h1, h2, h3, h4, h5, h6, h7, h8, h9, h10, h11, h12, h13, h14, h15, h16⟩ := ia_n hI; constructor <;> lia
  unfold w_add
  refine ⟨⟨y8.symm, by have := nt_le (x := g 302 0) (n := 400) (by decide) n0.2; omega, by rw [y7]; exact c_13 hC (by decide), by rw [ye]; show S.2.1 + 1 + 1 ≤ _; omega, by rw [ye]; show S.2.2 + 5 + 700 ≤ _; omega⟩, fun T hadd => ?_⟩
  obtain ⟨q1, q5, q6, q7, q8, q9⟩ := nHall hC hI hlt e0 e1 e2 e3 e4 e5 hadd
  have z : ∀ c ∈ [23, 24, 20, 21, 22], c < 103 ∧ c ≠ 57 ∧ c ≠ 58 ∧ c ≠ 81 := by decide
  exact hQ T q1 q5 (fun c i h => q5 c i (by unfold lsC; omega) (fun q => by have := z c q; omega)) q6 q7 q8 q9
theorem nFilm {g : Gm} {S S0 S1 S2 S3 S4 S5 S6 S7 S8 S9 T : Sg} {a b d : Int32} (hC : cC S g) (hI : Ia g) (hlt : g 307 0 < 8) (e0 : S0 = nu S 4 9 fdFilm) (e1 : S1 = su S0 34 (nt (g 307 0)) 50) (e2 : S2 = su S1 35 (nt (g 307 0)) 0) (e3 : S3 = su S2 36 (nt (g 307 0)) 50) (e4 : S4 = su S3 37 (nt (g 307 0)) 0) (e5 : S5 = su S4 38 (nt (g 307 0)) 0) (e6 : S6 = su S5 30 (nt (g 307 0)) (g 307 0)) (e7 : S7 = su S6 31 (nt (g 307 0)) a) (e8 : S8 = su S7 32 (nt (g 307 0)) b) (e9 : S9 = su S8 33 (nt (g 307 0)) d) (hadd : addR 1 S9 T) : (cCol T (gFilm g a b d) ∧ cId T (gFilm g a b d) ∧ cSc T (gFilm g a b d) ∧ cRow T) ∧ (∀ c i, ¬ lsC c → (c ∈ [34, 35, 36, 37, 38, 30, 31, 32, 33] → i ≠ (nt (g 307 0))) → T.1 c i = S.1 c i) ∧ T.2.1 = S.2.1 + 2 ∧ T.2.2 = S.2.2 + 709 ∧ bz T = bz S + 1 ∧ T.1 12 1 = g 307 0 + 1 := by
  have hb : 0 ≤ g 307 0 ∧ g 307 0 ≤ 400 := by obtain ⟨h1, h2, h3, h4, h5, h6, h7, h8, h9, h10, h11, h12, h13, h14, h15, h16⟩ := ia_n hI; constructor <;> lia
  have ek : S.1 10 4 = g 307 0 := c_10_4 hC
  have hA : ∀ c i, c ≠ 10 → (c ∈ [34, 35, 36, 37, 38, 30, 31, 32, 33] → i ≠ (nt (g 307 0))) → S9.1 c i = S.1 c i := fun c i h1 h3 => by
    have hh : c ∉ [34, 35, 36, 37, 38, 30, 31, 32, 33] ∨ i ≠ (nt (g 307 0)) := by by_cases q : c ∈ [34, 35, 36, 37, 38, 30, 31, 32, 33]; exact Or.inr (h3 q); exact Or.inl q
    rw [e9, suK hh (by decide), e8, suK hh (by decide), e7, suK hh (by decide), e6, suK hh (by decide), e5, suK hh (by decide), e4, suK hh (by decide), e3, suK hh (by decide), e2, suK hh (by decide), e1, suK hh (by decide), e0, nu_ne h1]
    rw [ek]
    refine hh.symm.imp_right (fun q d hd h9 e9 => q ?_)
    have z : ∀ d ∈ fdFilm, d.2.1 ∈ [34, 35, 36, 37, 38, 30, 31, 32, 33] := by decide
    rw [← e9]; exact z d hd
  have h10 : ∀ q ∈ scT, q.1 = 10 → S9.1 10 q.2.1 = if q.2.2 = 307 then g 307 0 + 1 else g q.2.2 0 := fun q hq e => by
    have z : ∀ q ∈ scT, q.1 = 10 → (q.2.1 = 4 ↔ q.2.2 = 307) := by decide
    have hh := hC.2.2.1 q hq
    rw [e] at hh
    rw [e9, su_ne (Or.inl (by decide)), e8, su_ne (Or.inl (by decide)), e7, su_ne (Or.inl (by decide)), e6, su_ne (Or.inl (by decide)), e5, su_ne (Or.inl (by decide)), e4, su_ne (Or.inl (by decide)), e3, su_ne (Or.inl (by decide)), e2, su_ne (Or.inl (by decide)), e1, su_ne (Or.inl (by decide)), e0, nu_10]
    by_cases q9 : q.2.1 = 4
    · rw [if_pos q9, if_pos ((z q hq e).mp q9), ek]
    · rw [if_neg q9, if_neg (fun q8 => q9 ((z q hq e).mpr q8)), hh]
  have hg : ∀ q ∈ colT, ∀ i, (q.2.2 = 307 → i ≠ (nt (g 307 0))) → (gFilm g a b d) q.2.1 i = g q.2.1 i := fun q hq i h1 => by
    have z : ∀ q ∈ colT, q.2.2 ≠ 307 → q.2.1 ∉ [108, 109, 110, 111, 113] := by decide
    have z2 : ∀ q ∈ colT, q.2.1 < 300 := by decide
    have z2 := z2 q hq
    have hh : q.2.1 ∉ [108, 109, 110, 111, 113] ∨ i ≠ (nt (g 307 0)) := by by_cases e : q.2.2 = 307; exact Or.inr (h1 e); exact Or.inl (z q hq e)
    unfold gFilm
    rw [gu_ne (Or.inl (by omega)), guK hh (by decide), guK hh (by decide), guK hh (by decide), guK hh (by decide), guK hh (by decide)]
  have hz : ∀ c, 300 ≤ c → (gFilm g a b d) c 0 = if c = 307 then g 307 0 + 1 else g c 0 := fun c hc => by
    unfold gFilm
    by_cases e : c = 307
    · rw [if_pos e, e, gu_at]
    · rw [if_neg e, gu_ne (Or.inl e), gu_ne (Or.inl (by omega)), gu_ne (Or.inl (by omega)), gu_ne (Or.inl (by omega)), gu_ne (Or.inl (by omega)), gu_ne (Or.inl (by omega))]
  have hn : ∀ q ∈ colT, q.2.2 = 307 → S9.1 q.1 (nt (g 307 0)) = (gFilm g a b d) q.2.1 (nt (g 307 0)) := fun q hq e => by
    have z : ∀ q ∈ colT, q.2.2 = 307 → q = (31, 108, 307) ∨ q = (32, 109, 307) ∨ q = (33, 110, 307) ∨ q = (34, 111, 307) ∨ q = (35, 112, 307) ∨ q = (36, 113, 307) ∨ q = (37, 114, 307) ∨ q = (38, 115, 307) := by decide
    unfold gFilm
    obtain ⟨d0, d1, d2⟩ := ia_fu hI (g 307 0) (by lia) hlt
    rcases z q hq e with rfl | rfl | rfl | rfl | rfl | rfl | rfl | rfl <;> simp [e9, e8, e7, e6, e5, e4, e3, e2, e1, su, gu, d0, d1, d2]
  have hi : ∀ q ∈ idT, q.2 = 307 → S9.1 q.1 (nt (g 307 0)) = g 307 0 := fun q hq e => by
    have z : ∀ q ∈ idT, q.2 = 307 → q = (30, 307) := by decide
    rcases z q hq e with rfl <;> simp [e9, e8, e7, e6, e5, e4, e3, e2, e1, su]
  have e2 : S9.2 = (S.2.1 + 1, S.2.2 + 9) := by rw [e9, e8, e7, e6, e5, e4, e3, e2, e1, e0]; rfl
  have e3 : ∀ i, S9.1 12 i = S.1 12 i := fun i => hA 12 i (by decide) (fun q => absurd q (by decide))
  have e4 : S.1 12 1 = g 307 0 := c_12_1 hC
  refine ⟨cNew (K := [34, 35, 36, 37, 38, 30, 31, 32, 33]) (N := 307) (j := 1) hC hb (by refine ⟨?_, ?_, ?_, ?_, ?_⟩ <;> decide) (fun c i h1 _ h3 => hA c i h1 h3) h10 hadd hg hz hn hi, fun c i h1 h2 => ?_, ?_, ?_, bz_add (by decide) hadd e3 (by rw [e4]; exact hb.1) (by rw [e4]; exact hb.2), ?_⟩
  · rw [add_ne hadd h1]; exact hA c i (by unfold lsC at h1; omega) h2
  · rw [hadd.2.2.2.2, e2]
  · rw [hadd.2.2.2.2, e2]
  · rw [hadd.2.2.1, if_pos rfl, e3, e4]
theorem aFilm {g : Gm} {S S0 S1 S2 S3 S4 S5 S6 S7 S8 S9 : Sg} {a b d : Int32} {Q : Nat → Int32 → Sg → Prop} (hC : cC S g) (hI : Ia g) (hlt : g 307 0 < 8) (e0 : S0 = nu S 4 9 fdFilm) (e1 : S1 = su S0 34 (nt (g 307 0)) 50) (e2 : S2 = su S1 35 (nt (g 307 0)) 0) (e3 : S3 = su S2 36 (nt (g 307 0)) 50) (e4 : S4 = su S3 37 (nt (g 307 0)) 0) (e5 : S5 = su S4 38 (nt (g 307 0)) 0) (e6 : S6 = su S5 30 (nt (g 307 0)) (g 307 0)) (e7 : S7 = su S6 31 (nt (g 307 0)) a) (e8 : S8 = su S7 32 (nt (g 307 0)) b) (e9 : S9 = su S8 33 (nt (g 307 0)) d) (hb : S.2.1 + 10 ≤ nB1 ∧ S.2.2 + 1000 ≤ nB2) (hQ : ∀ T, (cCol T (gFilm g a b d) ∧ cId T (gFilm g a b d) ∧ cSc T (gFilm g a b d) ∧ cRow T) → (∀ c i, ¬ lsC c → (c ∈ [34, 35, 36, 37, 38, 30, 31, 32, 33] → i ≠ (nt (g 307 0))) → T.1 c i = S.1 c i) → (∀ c i, (103 ≤ c ∨ c = 57 ∨ c = 58 ∨ c = 81) → T.1 c i = S.1 c i) → T.2.1 = S.2.1 + 2 → T.2.2 = S.2.2 + 709 → bz T = bz S + 1 → T.1 12 1 = g 307 0 + 1 → Q 0 1 T) : w_add 1 (g 307 0) S9 Q := by
  have y9 : S0.1 12 1 = g 307 0 := by rw [e0, nu_ne (by decide) (Or.inr (by decide))]; exact c_12_1 hC
  have ye : S9.2 = (S.2.1 + 1, S.2.2 + 9) := by rw [e9, e8, e7, e6, e5, e4, e3, e2, e1, e0]; rfl
  have y8 : S9.1 12 1 = g 307 0 := by rw [e9, su_ne (Or.inl (by decide)), e8, su_ne (Or.inl (by decide)), e7, su_ne (Or.inl (by decide)), e6, su_ne (Or.inl (by decide)), e5, su_ne (Or.inl (by decide)), e4, su_ne (Or.inl (by decide)), e3, su_ne (Or.inl (by decide)), e2, su_ne (Or.inl (by decide)), e1, su_ne (Or.inl (by decide))]; exact y9
  have y7 : S9.1 13 1 = S.1 13 1 := by rw [e9, su_ne (Or.inl (by decide)), e8, su_ne (Or.inl (by decide)), e7, su_ne (Or.inl (by decide)), e6, su_ne (Or.inl (by decide)), e5, su_ne (Or.inl (by decide)), e4, su_ne (Or.inl (by decide)), e3, su_ne (Or.inl (by decide)), e2, su_ne (Or.inl (by decide)), e1, su_ne (Or.inl (by decide)), e0, nu_ne (by decide) (Or.inr (by decide))]
  have n0 : 0 ≤ g 307 0 ∧ g 307 0 ≤ 400 := by obtain ⟨h1, h2, h3, h4, h5, h6, h7, h8, h9, h10, h11, h12, h13, h14, h15, h16⟩ := ia_n hI; constructor <;> lia
  unfold w_add
  refine ⟨⟨y8.symm, by have := nt_le (x := g 307 0) (n := 400) (by decide) n0.2; omega, by rw [y7]; exact c_13 hC (by decide), by rw [ye]; show S.2.1 + 1 + 1 ≤ _; omega, by rw [ye]; show S.2.2 + 9 + 700 ≤ _; omega⟩, fun T hadd => ?_⟩
  obtain ⟨q1, q5, q6, q7, q8, q9⟩ := nFilm hC hI hlt e0 e1 e2 e3 e4 e5 e6 e7 e8 e9 hadd
  have z : ∀ c ∈ [34, 35, 36, 37, 38, 30, 31, 32, 33], c < 103 ∧ c ≠ 57 ∧ c ≠ 58 ∧ c ≠ 81 := by decide
  exact hQ T q1 q5 (fun c i h => q5 c i (by unfold lsC; omega) (fun q => by have := z c q; omega)) q6 q7 q8 q9
theorem nKey {g : Gm} {S S0 S1 S2 S3 S4 T : Sg} {a b f h : Int32} (hC : cC S g) (hI : Ia g) (hlt : g 316 0 < 30) (e0 : S0 = nu S 5 4 fdKey) (e1 : S1 = su S0 40 (nt (g 316 0)) f) (e2 : S2 = su S1 41 (nt (g 316 0)) h) (e3 : S3 = su S2 42 (nt (g 316 0)) a) (e4 : S4 = su S3 43 (nt (g 316 0)) b) (hadd : addR 2 S4 T) : (cCol T (gKey g f h a b) ∧ cId T (gKey g f h a b) ∧ cSc T (gKey g f h a b) ∧ cRow T) ∧ (∀ c i, ¬ lsC c → (c ∈ [40, 41, 42, 43] → i ≠ (nt (g 316 0))) → T.1 c i = S.1 c i) ∧ T.2.1 = S.2.1 + 2 ∧ T.2.2 = S.2.2 + 704 ∧ bz T = bz S + 1 ∧ T.1 12 2 = g 316 0 + 1 := by
  have hb : 0 ≤ g 316 0 ∧ g 316 0 ≤ 400 := by obtain ⟨h1, h2, h3, h4, h5, h6, h7, h8, h9, h10, h11, h12, h13, h14, h15, h16⟩ := ia_n hI; constructor <;> lia
  have ek : S.1 10 5 = g 316 0 := c_10_5 hC
  have hA : ∀ c i, c ≠ 10 → (c ∈ [40, 41, 42, 43] → i ≠ (nt (g 316 0))) → S4.1 c i = S.1 c i := fun c i h1 h3 => by
    have hh : c ∉ [40, 41, 42, 43] ∨ i ≠ (nt (g 316 0)) := by by_cases q : c ∈ [40, 41, 42, 43]; exact Or.inr (h3 q); exact Or.inl q
    rw [e4, suK hh (by decide), e3, suK hh (by decide), e2, suK hh (by decide), e1, suK hh (by decide), e0, nu_ne h1]
    rw [ek]
    refine hh.symm.imp_right (fun q d hd h9 e9 => q ?_)
    have z : ∀ d ∈ fdKey, d.2.1 ∈ [40, 41, 42, 43] := by decide
    rw [← e9]; exact z d hd
  have h10 : ∀ q ∈ scT, q.1 = 10 → S4.1 10 q.2.1 = if q.2.2 = 316 then g 316 0 + 1 else g q.2.2 0 := fun q hq e => by
    have z : ∀ q ∈ scT, q.1 = 10 → (q.2.1 = 5 ↔ q.2.2 = 316) := by decide
    have hh := hC.2.2.1 q hq
    rw [e] at hh
    rw [e4, su_ne (Or.inl (by decide)), e3, su_ne (Or.inl (by decide)), e2, su_ne (Or.inl (by decide)), e1, su_ne (Or.inl (by decide)), e0, nu_10]
    by_cases q9 : q.2.1 = 5
    · rw [if_pos q9, if_pos ((z q hq e).mp q9), ek]
    · rw [if_neg q9, if_neg (fun q8 => q9 ((z q hq e).mpr q8)), hh]
  have hg : ∀ q ∈ colT, ∀ i, (q.2.2 = 316 → i ≠ (nt (g 316 0))) → (gKey g f h a b) q.2.1 i = g q.2.1 i := fun q hq i h1 => by
    have z : ∀ q ∈ colT, q.2.2 ≠ 316 → q.2.1 ∉ [117, 118, 119, 120] := by decide
    have z2 : ∀ q ∈ colT, q.2.1 < 300 := by decide
    have z2 := z2 q hq
    have hh : q.2.1 ∉ [117, 118, 119, 120] ∨ i ≠ (nt (g 316 0)) := by by_cases e : q.2.2 = 316; exact Or.inr (h1 e); exact Or.inl (z q hq e)
    unfold gKey
    rw [gu_ne (Or.inl (by omega)), guK hh (by decide), guK hh (by decide), guK hh (by decide), guK hh (by decide)]
  have hz : ∀ c, 300 ≤ c → (gKey g f h a b) c 0 = if c = 316 then g 316 0 + 1 else g c 0 := fun c hc => by
    unfold gKey
    by_cases e : c = 316
    · rw [if_pos e, e, gu_at]
    · rw [if_neg e, gu_ne (Or.inl e), gu_ne (Or.inl (by omega)), gu_ne (Or.inl (by omega)), gu_ne (Or.inl (by omega)), gu_ne (Or.inl (by omega))]
  have hn : ∀ q ∈ colT, q.2.2 = 316 → S4.1 q.1 (nt (g 316 0)) = (gKey g f h a b) q.2.1 (nt (g 316 0)) := fun q hq e => by
    have z : ∀ q ∈ colT, q.2.2 = 316 → q = (40, 117, 316) ∨ q = (41, 118, 316) ∨ q = (42, 119, 316) ∨ q = (43, 120, 316) := by decide
    unfold gKey
    skip
    rcases z q hq e with rfl | rfl | rfl | rfl <;> simp [e4, e3, e2, e1, su, gu]
  have hi : ∀ q ∈ idT, q.2 = 316 → S4.1 q.1 (nt (g 316 0)) = g 316 0 := fun q hq e => by
    have z : ∀ q ∈ idT, q.2 ≠ 316 := by decide
    exact absurd e (z q hq)
  have e2 : S4.2 = (S.2.1 + 1, S.2.2 + 4) := by rw [e4, e3, e2, e1, e0]; rfl
  have e3 : ∀ i, S4.1 12 i = S.1 12 i := fun i => hA 12 i (by decide) (fun q => absurd q (by decide))
  have e4 : S.1 12 2 = g 316 0 := c_12_2 hC
  refine ⟨cNew (K := [40, 41, 42, 43]) (N := 316) (j := 2) hC hb (by refine ⟨?_, ?_, ?_, ?_, ?_⟩ <;> decide) (fun c i h1 _ h3 => hA c i h1 h3) h10 hadd hg hz hn hi, fun c i h1 h2 => ?_, ?_, ?_, bz_add (by decide) hadd e3 (by rw [e4]; exact hb.1) (by rw [e4]; exact hb.2), ?_⟩
  · rw [add_ne hadd h1]; exact hA c i (by unfold lsC at h1; omega) h2
  · rw [hadd.2.2.2.2, e2]
  · rw [hadd.2.2.2.2, e2]
  · rw [hadd.2.2.1, if_pos rfl, e3, e4]
theorem aKey {g : Gm} {S S0 S1 S2 S3 S4 : Sg} {a b f h : Int32} {Q : Nat → Int32 → Sg → Prop} (hC : cC S g) (hI : Ia g) (hlt : g 316 0 < 30) (e0 : S0 = nu S 5 4 fdKey) (e1 : S1 = su S0 40 (nt (g 316 0)) f) (e2 : S2 = su S1 41 (nt (g 316 0)) h) (e3 : S3 = su S2 42 (nt (g 316 0)) a) (e4 : S4 = su S3 43 (nt (g 316 0)) b) (hb : S.2.1 + 10 ≤ nB1 ∧ S.2.2 + 1000 ≤ nB2) (hQ : ∀ T, (cCol T (gKey g f h a b) ∧ cId T (gKey g f h a b) ∧ cSc T (gKey g f h a b) ∧ cRow T) → (∀ c i, ¬ lsC c → (c ∈ [40, 41, 42, 43] → i ≠ (nt (g 316 0))) → T.1 c i = S.1 c i) → (∀ c i, (103 ≤ c ∨ c = 57 ∨ c = 58 ∨ c = 81) → T.1 c i = S.1 c i) → T.2.1 = S.2.1 + 2 → T.2.2 = S.2.2 + 704 → bz T = bz S + 1 → T.1 12 2 = g 316 0 + 1 → Q 0 1 T) : w_add 2 (g 316 0) S4 Q := by
  have y9 : S0.1 12 2 = g 316 0 := by rw [e0, nu_ne (by decide) (Or.inr (by decide))]; exact c_12_2 hC
  have ye : S4.2 = (S.2.1 + 1, S.2.2 + 4) := by rw [e4, e3, e2, e1, e0]; rfl
  have y8 : S4.1 12 2 = g 316 0 := by rw [e4, su_ne (Or.inl (by decide)), e3, su_ne (Or.inl (by decide)), e2, su_ne (Or.inl (by decide)), e1, su_ne (Or.inl (by decide))]; exact y9
  have y7 : S4.1 13 2 = S.1 13 2 := by rw [e4, su_ne (Or.inl (by decide)), e3, su_ne (Or.inl (by decide)), e2, su_ne (Or.inl (by decide)), e1, su_ne (Or.inl (by decide)), e0, nu_ne (by decide) (Or.inr (by decide))]
  have n0 : 0 ≤ g 316 0 ∧ g 316 0 ≤ 400 := by obtain ⟨h1, h2, h3, h4, h5, h6, h7, h8, h9, h10, h11, h12, h13, h14, h15, h16⟩ := ia_n hI; constructor <;> lia
  unfold w_add
  refine ⟨⟨y8.symm, by have := nt_le (x := g 316 0) (n := 400) (by decide) n0.2; omega, by rw [y7]; exact c_13 hC (by decide), by rw [ye]; show S.2.1 + 1 + 1 ≤ _; omega, by rw [ye]; show S.2.2 + 4 + 700 ≤ _; omega⟩, fun T hadd => ?_⟩
  obtain ⟨q1, q5, q6, q7, q8, q9⟩ := nKey hC hI hlt e0 e1 e2 e3 e4 hadd
  have z : ∀ c ∈ [40, 41, 42, 43], c < 103 ∧ c ≠ 57 ∧ c ≠ 58 ∧ c ≠ 81 := by decide
  exact hQ T q1 q5 (fun c i h => q5 c i (by unfold lsC; omega) (fun q => by have := z c q; omega)) q6 q7 q8 q9
theorem nHold {g : Gm} {S S0 S1 S2 S3 S4 T : Sg} {p s u : Int32} (hC : cC S g) (hI : Ia g) (hlt : g 331 0 < 100) (e0 : S0 = nu S 7 4 fdHold) (e1 : S1 = su S0 63 (nt (g 331 0)) 0) (e2 : S2 = su S1 60 (nt (g 331 0)) s) (e3 : S3 = su S2 61 (nt (g 331 0)) p) (e4 : S4 = su S3 62 (nt (g 331 0)) u) (hadd : addR 4 S4 T) : (cCol T (gHold0 g s p u) ∧ cId T (gHold0 g s p u) ∧ cSc T (gHold0 g s p u) ∧ cRow T) ∧ (∀ c i, ¬ lsC c → (c ∈ [63, 60, 61, 62] → i ≠ (nt (g 331 0))) → T.1 c i = S.1 c i) ∧ T.2.1 = S.2.1 + 2 ∧ T.2.2 = S.2.2 + 704 ∧ bz T = bz S + 1 ∧ T.1 12 4 = g 331 0 + 1 := by
  have hb : 0 ≤ g 331 0 ∧ g 331 0 ≤ 400 := by obtain ⟨h1, h2, h3, h4, h5, h6, h7, h8, h9, h10, h11, h12, h13, h14, h15, h16⟩ := ia_n hI; constructor <;> lia
  have ek : S.1 10 7 = g 331 0 := c_10_7 hC
  have hA : ∀ c i, c ≠ 10 → (c ∈ [63, 60, 61, 62] → i ≠ (nt (g 331 0))) → S4.1 c i = S.1 c i := fun c i h1 h3 => by
    have hh : c ∉ [63, 60, 61, 62] ∨ i ≠ (nt (g 331 0)) := by by_cases q : c ∈ [63, 60, 61, 62]; exact Or.inr (h3 q); exact Or.inl q
    rw [e4, suK hh (by decide), e3, suK hh (by decide), e2, suK hh (by decide), e1, suK hh (by decide), e0, nu_ne h1]
    rw [ek]
    refine hh.symm.imp_right (fun q d hd h9 e9 => q ?_)
    have z : ∀ d ∈ fdHold, d.2.1 ∈ [63, 60, 61, 62] := by decide
    rw [← e9]; exact z d hd
  have h10 : ∀ q ∈ scT, q.1 = 10 → S4.1 10 q.2.1 = if q.2.2 = 331 then g 331 0 + 1 else g q.2.2 0 := fun q hq e => by
    have z : ∀ q ∈ scT, q.1 = 10 → (q.2.1 = 7 ↔ q.2.2 = 331) := by decide
    have hh := hC.2.2.1 q hq
    rw [e] at hh
    rw [e4, su_ne (Or.inl (by decide)), e3, su_ne (Or.inl (by decide)), e2, su_ne (Or.inl (by decide)), e1, su_ne (Or.inl (by decide)), e0, nu_10]
    by_cases q9 : q.2.1 = 7
    · rw [if_pos q9, if_pos ((z q hq e).mp q9), ek]
    · rw [if_neg q9, if_neg (fun q8 => q9 ((z q hq e).mpr q8)), hh]
  have hg : ∀ q ∈ colT, ∀ i, (q.2.2 = 331 → i ≠ (nt (g 331 0))) → (gHold0 g s p u) q.2.1 i = g q.2.1 i := fun q hq i h1 => by
    have z : ∀ q ∈ colT, q.2.2 ≠ 331 → q.2.1 ∉ [132, 133, 134] := by decide
    have z2 : ∀ q ∈ colT, q.2.1 < 300 := by decide
    have z2 := z2 q hq
    have hh : q.2.1 ∉ [132, 133, 134] ∨ i ≠ (nt (g 331 0)) := by by_cases e : q.2.2 = 331; exact Or.inr (h1 e); exact Or.inl (z q hq e)
    unfold gHold0
    rw [gu_ne (Or.inl (by omega)), guK hh (by decide), guK hh (by decide), guK hh (by decide)]
  have hz : ∀ c, 300 ≤ c → (gHold0 g s p u) c 0 = if c = 331 then g 331 0 + 1 else g c 0 := fun c hc => by
    unfold gHold0
    by_cases e : c = 331
    · rw [if_pos e, e, gu_at]
    · rw [if_neg e, gu_ne (Or.inl e), gu_ne (Or.inl (by omega)), gu_ne (Or.inl (by omega)), gu_ne (Or.inl (by omega))]
  have hn : ∀ q ∈ colT, q.2.2 = 331 → S4.1 q.1 (nt (g 331 0)) = (gHold0 g s p u) q.2.1 (nt (g 331 0)) := fun q hq e => by
    have z : ∀ q ∈ colT, q.2.2 = 331 → q = (60, 132, 331) ∨ q = (61, 133, 331) ∨ q = (62, 134, 331) ∨ q = (63, 135, 331) := by decide
    unfold gHold0
    have d0 := ia_ou hI (g 331 0) (by lia) hlt
    rcases z q hq e with rfl | rfl | rfl | rfl <;> simp [e4, e3, e2, e1, su, gu, d0]
  have hi : ∀ q ∈ idT, q.2 = 331 → S4.1 q.1 (nt (g 331 0)) = g 331 0 := fun q hq e => by
    have z : ∀ q ∈ idT, q.2 ≠ 331 := by decide
    exact absurd e (z q hq)
  have e2 : S4.2 = (S.2.1 + 1, S.2.2 + 4) := by rw [e4, e3, e2, e1, e0]; rfl
  have e3 : ∀ i, S4.1 12 i = S.1 12 i := fun i => hA 12 i (by decide) (fun q => absurd q (by decide))
  have e4 : S.1 12 4 = g 331 0 := c_12_4 hC
  refine ⟨cNew (K := [63, 60, 61, 62]) (N := 331) (j := 4) hC hb (by refine ⟨?_, ?_, ?_, ?_, ?_⟩ <;> decide) (fun c i h1 _ h3 => hA c i h1 h3) h10 hadd hg hz hn hi, fun c i h1 h2 => ?_, ?_, ?_, bz_add (by decide) hadd e3 (by rw [e4]; exact hb.1) (by rw [e4]; exact hb.2), ?_⟩
  · rw [add_ne hadd h1]; exact hA c i (by unfold lsC at h1; omega) h2
  · rw [hadd.2.2.2.2, e2]
  · rw [hadd.2.2.2.2, e2]
  · rw [hadd.2.2.1, if_pos rfl, e3, e4]
theorem aHold {g : Gm} {S S0 S1 S2 S3 S4 : Sg} {p s u : Int32} {Q : Nat → Int32 → Sg → Prop} (hC : cC S g) (hI : Ia g) (hlt : g 331 0 < 100) (e0 : S0 = nu S 7 4 fdHold) (e1 : S1 = su S0 63 (nt (g 331 0)) 0) (e2 : S2 = su S1 60 (nt (g 331 0)) s) (e3 : S3 = su S2 61 (nt (g 331 0)) p) (e4 : S4 = su S3 62 (nt (g 331 0)) u) (hb : S.2.1 + 10 ≤ nB1 ∧ S.2.2 + 1000 ≤ nB2) (hQ : ∀ T, (cCol T (gHold0 g s p u) ∧ cId T (gHold0 g s p u) ∧ cSc T (gHold0 g s p u) ∧ cRow T) → (∀ c i, ¬ lsC c → (c ∈ [63, 60, 61, 62] → i ≠ (nt (g 331 0))) → T.1 c i = S.1 c i) → (∀ c i, (103 ≤ c ∨ c = 57 ∨ c = 58 ∨ c = 81) → T.1 c i = S.1 c i) → T.2.1 = S.2.1 + 2 → T.2.2 = S.2.2 + 704 → bz T = bz S + 1 → T.1 12 4 = g 331 0 + 1 → Q 0 1 T) : w_add 4 (g 331 0) S4 Q := by
  have y9 : S0.1 12 4 = g 331 0 := by rw [e0, nu_ne (by decide) (Or.inr (by decide))]; exact c_12_4 hC
  have ye : S4.2 = (S.2.1 + 1, S.2.2 + 4) := by rw [e4, e3, e2, e1, e0]; rfl
  have y8 : S4.1 12 4 = g 331 0 := by rw [e4, su_ne (Or.inl (by decide)), e3, su_ne (Or.inl (by decide)), e2, su_ne (Or.inl (by decide)), e1, su_ne (Or.inl (by decide))]; exact y9
  have y7 : S4.1 13 4 = S.1 13 4 := by rw [e4, su_ne (Or.inl (by decide)), e3, su_ne (Or.inl (by decide)), e2, su_ne (Or.inl (by decide)), e1, su_ne (Or.inl (by decide)), e0, nu_ne (by decide) (Or.inr (by decide))]
  have n0 : 0 ≤ g 331 0 ∧ g 331 0 ≤ 400 := by obtain ⟨h1, h2, h3, h4, h5, h6, h7, h8, h9, h10, h11, h12, h13, h14, h15, h16⟩ := ia_n hI; constructor <;> lia
  unfold w_add
  refine ⟨⟨y8.symm, by have := nt_le (x := g 331 0) (n := 400) (by decide) n0.2; omega, by rw [y7]; exact c_13 hC (by decide), by rw [ye]; show S.2.1 + 1 + 1 ≤ _; omega, by rw [ye]; show S.2.2 + 4 + 700 ≤ _; omega⟩, fun T hadd => ?_⟩
  obtain ⟨q1, q5, q6, q7, q8, q9⟩ := nHold hC hI hlt e0 e1 e2 e3 e4 hadd
  have z : ∀ c ∈ [63, 60, 61, 62], c < 103 ∧ c ≠ 57 ∧ c ≠ 58 ∧ c ≠ 81 := by decide
  exact hQ T q1 q5 (fun c i h => q5 c i (by unfold lsC; omega) (fun q => by have := z c q; omega)) q6 q7 q8 q9
theorem nTick {g : Gm} {S S0 S1 S2 S3 S4 S5 T : Sg} {a p s : Int32} (hC : cC S g) (hI : Ia g) (hlt : g 336 0 < 400) (e0 : S0 = nu S 8 5 fdTicket) (e1 : S1 = su S0 74 (nt (g 336 0)) 0) (e2 : S2 = su S1 70 (nt (g 336 0)) s) (e3 : S3 = su S2 71 (nt (g 336 0)) p) (e4 : S4 = su S3 72 (nt (g 336 0)) a) (e5 : S5 = su S4 73 (nt (g 336 0)) (prc g s a)) (hadd : addR 5 S5 T) : (cCol T (gTick g s p a) ∧ cId T (gTick g s p a) ∧ cSc T (gTick g s p a) ∧ cRow T) ∧ (∀ c i, ¬ lsC c → (c ∈ [74, 70, 71, 72, 73] → i ≠ (nt (g 336 0))) → T.1 c i = S.1 c i) ∧ T.2.1 = S.2.1 + 2 ∧ T.2.2 = S.2.2 + 705 ∧ bz T = bz S + 1 ∧ T.1 12 5 = g 336 0 + 1 := by
  have hb : 0 ≤ g 336 0 ∧ g 336 0 ≤ 400 := by obtain ⟨h1, h2, h3, h4, h5, h6, h7, h8, h9, h10, h11, h12, h13, h14, h15, h16⟩ := ia_n hI; constructor <;> lia
  have ek : S.1 10 8 = g 336 0 := c_10_8 hC
  have hA : ∀ c i, c ≠ 10 → (c ∈ [74, 70, 71, 72, 73] → i ≠ (nt (g 336 0))) → S5.1 c i = S.1 c i := fun c i h1 h3 => by
    have hh : c ∉ [74, 70, 71, 72, 73] ∨ i ≠ (nt (g 336 0)) := by by_cases q : c ∈ [74, 70, 71, 72, 73]; exact Or.inr (h3 q); exact Or.inl q
    rw [e5, suK hh (by decide), e4, suK hh (by decide), e3, suK hh (by decide), e2, suK hh (by decide), e1, suK hh (by decide), e0, nu_ne h1]
    rw [ek]
    refine hh.symm.imp_right (fun q d hd h9 e9 => q ?_)
    have z : ∀ d ∈ fdTicket, d.2.1 ∈ [74, 70, 71, 72, 73] := by decide
    rw [← e9]; exact z d hd
  have h10 : ∀ q ∈ scT, q.1 = 10 → S5.1 10 q.2.1 = if q.2.2 = 336 then g 336 0 + 1 else g q.2.2 0 := fun q hq e => by
    have z : ∀ q ∈ scT, q.1 = 10 → (q.2.1 = 8 ↔ q.2.2 = 336) := by decide
    have hh := hC.2.2.1 q hq
    rw [e] at hh
    rw [e5, su_ne (Or.inl (by decide)), e4, su_ne (Or.inl (by decide)), e3, su_ne (Or.inl (by decide)), e2, su_ne (Or.inl (by decide)), e1, su_ne (Or.inl (by decide)), e0, nu_10]
    by_cases q9 : q.2.1 = 8
    · rw [if_pos q9, if_pos ((z q hq e).mp q9), ek]
    · rw [if_neg q9, if_neg (fun q8 => q9 ((z q hq e).mpr q8)), hh]
  have hg : ∀ q ∈ colT, ∀ i, (q.2.2 = 336 → i ≠ (nt (g 336 0))) → (gTick g s p a) q.2.1 i = g q.2.1 i := fun q hq i h1 => by
    have z : ∀ q ∈ colT, q.2.2 ≠ 336 → q.2.1 ∉ [137, 138, 139, 140] := by decide
    have z2 : ∀ q ∈ colT, q.2.1 < 300 := by decide
    have z2 := z2 q hq
    have hh : q.2.1 ∉ [137, 138, 139, 140] ∨ i ≠ (nt (g 336 0)) := by by_cases e : q.2.2 = 336; exact Or.inr (h1 e); exact Or.inl (z q hq e)
    unfold gTick
    rw [gu_ne (Or.inl (by omega)), guK hh (by decide), guK hh (by decide), guK hh (by decide), guK hh (by decide)]
  have hz : ∀ c, 300 ≤ c → (gTick g s p a) c 0 = if c = 336 then g 336 0 + 1 else g c 0 := fun c hc => by
    unfold gTick
    by_cases e : c = 336
    · rw [if_pos e, e, gu_at]
    · rw [if_neg e, gu_ne (Or.inl e), gu_ne (Or.inl (by omega)), gu_ne (Or.inl (by omega)), gu_ne (Or.inl (by omega)), gu_ne (Or.inl (by omega))]
  have hn : ∀ q ∈ colT, q.2.2 = 336 → S5.1 q.1 (nt (g 336 0)) = (gTick g s p a) q.2.1 (nt (g 336 0)) := fun q hq e => by
    have z : ∀ q ∈ colT, q.2.2 = 336 → q = (70, 137, 336) ∨ q = (71, 138, 336) ∨ q = (72, 139, 336) ∨ q = (73, 140, 336) ∨ q = (74, 141, 336) := by decide
    unfold gTick
    have d0 := ia_tu hI (g 336 0) (by lia) hlt
    rcases z q hq e with rfl | rfl | rfl | rfl | rfl <;> simp [e5, e4, e3, e2, e1, su, gu, d0]
  have hi : ∀ q ∈ idT, q.2 = 336 → S5.1 q.1 (nt (g 336 0)) = g 336 0 := fun q hq e => by
    have z : ∀ q ∈ idT, q.2 ≠ 336 := by decide
    exact absurd e (z q hq)
  have e2 : S5.2 = (S.2.1 + 1, S.2.2 + 5) := by rw [e5, e4, e3, e2, e1, e0]; rfl
  have e3 : ∀ i, S5.1 12 i = S.1 12 i := fun i => hA 12 i (by decide) (fun q => absurd q (by decide))
  have e4 : S.1 12 5 = g 336 0 := c_12_5 hC
  refine ⟨cNew (K := [74, 70, 71, 72, 73]) (N := 336) (j := 5) hC hb (by refine ⟨?_, ?_, ?_, ?_, ?_⟩ <;> decide) (fun c i h1 _ h3 => hA c i h1 h3) h10 hadd hg hz hn hi, fun c i h1 h2 => ?_, ?_, ?_, bz_add (by decide) hadd e3 (by rw [e4]; exact hb.1) (by rw [e4]; exact hb.2), ?_⟩
  · rw [add_ne hadd h1]; exact hA c i (by unfold lsC at h1; omega) h2
  · rw [hadd.2.2.2.2, e2]
  · rw [hadd.2.2.2.2, e2]
  · rw [hadd.2.2.1, if_pos rfl, e3, e4]
theorem aTick {g : Gm} {S S0 S1 S2 S3 S4 S5 : Sg} {a p s : Int32} {Q : Nat → Int32 → Sg → Prop} (hC : cC S g) (hI : Ia g) (hlt : g 336 0 < 400) (e0 : S0 = nu S 8 5 fdTicket) (e1 : S1 = su S0 74 (nt (g 336 0)) 0) (e2 : S2 = su S1 70 (nt (g 336 0)) s) (e3 : S3 = su S2 71 (nt (g 336 0)) p) (e4 : S4 = su S3 72 (nt (g 336 0)) a) (e5 : S5 = su S4 73 (nt (g 336 0)) (prc g s a)) (hb : S.2.1 + 10 ≤ nB1 ∧ S.2.2 + 1000 ≤ nB2) (hQ : ∀ T, (cCol T (gTick g s p a) ∧ cId T (gTick g s p a) ∧ cSc T (gTick g s p a) ∧ cRow T) → (∀ c i, ¬ lsC c → (c ∈ [74, 70, 71, 72, 73] → i ≠ (nt (g 336 0))) → T.1 c i = S.1 c i) → (∀ c i, (103 ≤ c ∨ c = 57 ∨ c = 58 ∨ c = 81) → T.1 c i = S.1 c i) → T.2.1 = S.2.1 + 2 → T.2.2 = S.2.2 + 705 → bz T = bz S + 1 → T.1 12 5 = g 336 0 + 1 → Q 0 1 T) : w_add 5 (g 336 0) S5 Q := by
  have y9 : S0.1 12 5 = g 336 0 := by rw [e0, nu_ne (by decide) (Or.inr (by decide))]; exact c_12_5 hC
  have ye : S5.2 = (S.2.1 + 1, S.2.2 + 5) := by rw [e5, e4, e3, e2, e1, e0]; rfl
  have y8 : S5.1 12 5 = g 336 0 := by rw [e5, su_ne (Or.inl (by decide)), e4, su_ne (Or.inl (by decide)), e3, su_ne (Or.inl (by decide)), e2, su_ne (Or.inl (by decide)), e1, su_ne (Or.inl (by decide))]; exact y9
  have y7 : S5.1 13 5 = S.1 13 5 := by rw [e5, su_ne (Or.inl (by decide)), e4, su_ne (Or.inl (by decide)), e3, su_ne (Or.inl (by decide)), e2, su_ne (Or.inl (by decide)), e1, su_ne (Or.inl (by decide)), e0, nu_ne (by decide) (Or.inr (by decide))]
  have n0 : 0 ≤ g 336 0 ∧ g 336 0 ≤ 400 := by obtain ⟨h1, h2, h3, h4, h5, h6, h7, h8, h9, h10, h11, h12, h13, h14, h15, h16⟩ := ia_n hI; constructor <;> lia
  unfold w_add
  refine ⟨⟨y8.symm, by have := nt_le (x := g 336 0) (n := 400) (by decide) n0.2; omega, by rw [y7]; exact c_13 hC (by decide), by rw [ye]; show S.2.1 + 1 + 1 ≤ _; omega, by rw [ye]; show S.2.2 + 5 + 700 ≤ _; omega⟩, fun T hadd => ?_⟩
  obtain ⟨q1, q5, q6, q7, q8, q9⟩ := nTick hC hI hlt e0 e1 e2 e3 e4 e5 hadd
  have z : ∀ c ∈ [74, 70, 71, 72, 73], c < 103 ∧ c ≠ 57 ∧ c ≠ 58 ∧ c ≠ 81 := by decide
  exact hQ T q1 q5 (fun c i h => q5 c i (by unfold lsC; omega) (fun q => by have := z c q; omega)) q6 q7 q8 q9
