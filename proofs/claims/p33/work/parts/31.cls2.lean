/-! the class's calls: halls, films, keys -/
theorem bd_new {n x : Nat} {S T : Sg} (hB : Bd n S) (h1 : T.2.1 = S.2.1 + 2) (h2 : T.2.2 = S.2.2 + x) (hx : x ≤ 900) (h3 : bz T = bz S + 1) : Bd (n + 1) T := by
  obtain ⟨b1, b2⟩ := hB
  exact ⟨by omega, by omega⟩
theorem bd_same {n : Nat} {S T : Sg} (hB : Bd n S) (h1 : T.2 = S.2) (h3 : ∀ i, T.1 12 i = S.1 12 i) : Bd n T := by
  obtain ⟨b1, b2⟩ := hB
  have e : bz T = bz S := by unfold bz; simp only [h3]
  exact ⟨by rw [h1, e]; exact b1, by rw [h1, e]; exact b2⟩
theorem mc_lc {c : Nat} (h : mc c) : 103 ≤ c ∧ c < 342 := by unfold mc at h; omega
theorem i32_sub1 {x : Int32} : x + 1 - 1 = x := by lia
theorem cls_hall {n : Nat} {g : Gm} {S : Sg} {a b : Int32} {Q : Nat → Int32 → Sg → Prop} (hC : cC S g) (hI : Iv g) (hB : Bd n S) (hn : n < 20000) (hQ : cPost n (rHall g a b) S Q) : w_X7_hall a b S Q := by
  obtain ⟨b1, b2⟩ := bd_room hB (by omega) hC (i_n hI)
  obtain ⟨-, -, -, -, n1, n2, -⟩ := i_n hI
  unfold w_X7_hall
  refine needWithin_ok (fun r1 => kz ?_) (fun r1 => cThr1 (by decide) hC hI hB hn (cP_of hQ (if_neg (fun q => r1 q.1))))
  refine needWithin_ok (fun r2 => kz ?_) (fun r2 => cThr1 (by decide) hC hI hB hn (cP_of hQ (if_neg (fun q => r2 q.2))))
  unfold w_size
  rw [c_12_0 hC]
  refine kz ⟨fun r3 => ⟨⟨by omega, by omega⟩, ?_⟩, fun r3 => cThr hC hI hB hn (cP_of hQ (by unfold rHall; rw [if_pos ⟨r1, r2⟩, if_pos (by lia)]))⟩
  have hQ := cP_of hQ (show rHall g a b = (0, g 302 0, gHall g a b) by unfold rHall; rw [if_pos ⟨r1, r2⟩, if_neg (by lia)])
  intro v11 e11 S0 e0
  have e11 : v11 = g 302 0 := e11.trans (c_10_3 hC)
  subst e11
  refine kz ?_
  have y9 : S0.1 12 0 = g 302 0 := by rw [e0, nu_ne (by decide) (Or.inr (by decide))]; exact c_12_0 hC
  rw [y9]
  unfold w_X1_init
  intro S1 e1 S2 e2 S3 e3 S4 e4 S5 e5
  refine kz (aHall hC hI.1 r3 e0 e1 e2 e3 e4 e5 ⟨by omega, by omega⟩ fun T ⟨q1, q2, q3, q4⟩ q5 q5b q6 q7 q8 q9 => kz (kz ?_))
  rw [q9, i32_sub1]
  obtain ⟨p1, p2, p3, p4⟩ := cSpec (g1 := gHall g a b) hC (S1 := T) (fun c i h => q5b c i (by omega)) rfl (fun s => rfl) (fun s a9 b9 => by
    obtain ⟨-, -, z3, z4, -⟩ := i_s hI s a9 b9
    have z5 : nt (g 123 (nt s)) ≠ nt (g 302 0) := fun q => by rw [(nt_inj z3 n1).mp q] at z4; lia
    exact wd_eq rfl (by unfold gHall; rw [gu_ne (by simp), gu_ne (by simp), gu_ne (by simp), gu_ne (Or.inr z5)]) (by unfold gHall; rw [gu_ne (by simp), gu_ne (by simp), gu_ne (Or.inr z5), gu_ne (by simp)])) (fun c i h1 h2 => by unfold gHall; rw [gu_ne (Or.inl (by omega)), gu_ne (Or.inl (by omega)), gu_ne (Or.inl (by omega)), gu_ne (Or.inl (by omega))])
  exact hQ T ⟨q1, q2, q3, q4, p1, p2, p3, p4⟩ (fun c i h => q5b c i (by have := mc_lc h; omega)) (bd_new hB q6 q7 (by omega) q8)
theorem cls_film {n : Nat} {g : Gm} {S : Sg} {a b d : Int32} {Q : Nat → Int32 → Sg → Prop} (hC : cC S g) (hI : Iv g) (hB : Bd n S) (hn : n < 20000) (hQ : cPost n (rFilm g a b d) S Q) : w_X7_film a b d S Q := by
  obtain ⟨b1, b2⟩ := bd_room hB (by omega) hC (i_n hI)
  obtain ⟨-, -, -, -, -, -, n1, n2, -⟩ := i_n hI
  unfold w_X7_film
  refine needWithin_ok (fun r1 => kz ?_) (fun r1 => cThr1 (by decide) hC hI hB hn (cP_of hQ (if_neg (fun q => r1 q.1))))
  refine needWithin_ok (fun r2 => kz ?_) (fun r2 => cThr1 (by decide) hC hI hB hn (cP_of hQ (if_neg (fun q => r2 q.2.1))))
  refine needWithin_ok (fun r4 => kz ?_) (fun r4 => cThr1 (by decide) hC hI hB hn (cP_of hQ (if_neg (fun q => r4 q.2.2))))
  unfold w_size
  rw [c_12_1 hC]
  refine kz ⟨fun r3 => ⟨⟨by omega, by omega⟩, ?_⟩, fun r3 => cThr hC hI hB hn (cP_of hQ (by unfold rFilm; rw [if_pos ⟨r1, r2, r4⟩, if_pos (by lia)]))⟩
  have hQ := cP_of hQ (show rFilm g a b d = (0, g 307 0, gFilm g a b d) by unfold rFilm; rw [if_pos ⟨r1, r2, r4⟩, if_neg (by lia)])
  intro v11 e11 S0 e0
  have e11 : v11 = g 307 0 := e11.trans (c_10_4 hC)
  subst e11
  refine kz ?_
  have y9 : S0.1 12 1 = g 307 0 := by rw [e0, nu_ne (by decide) (Or.inr (by decide))]; exact c_12_1 hC
  rw [y9]
  unfold w_X0_init
  intro S1 e1 S2 e2 S3 e3 S4 e4 S5 e5 S6 e6 S7 e7 S8 e8 S9 e9
  refine kz (aFilm hC hI.1 r3 e0 e1 e2 e3 e4 e5 e6 e7 e8 e9 ⟨by omega, by omega⟩ fun T ⟨q1, q2, q3, q4⟩ q5 q5b q6 q7 q8 q9 => kz (kz ?_))
  rw [q9, i32_sub1]
  obtain ⟨p1, p2, p3, p4⟩ := cSpec (g1 := gFilm g a b d) hC (S1 := T) (fun c i h => q5b c i (by omega)) rfl (fun s => rfl) (fun s a9 b9 => rfl) (fun c i h1 h2 => by unfold gFilm; rw [gu_ne (Or.inl (by omega)), gu_ne (Or.inl (by omega)), gu_ne (Or.inl (by omega)), gu_ne (Or.inl (by omega)), gu_ne (Or.inl (by omega)), gu_ne (Or.inl (by omega))])
  exact hQ T ⟨q1, q2, q3, q4, p1, p2, p3, p4⟩ (fun c i h => q5b c i (by have := mc_lc h; omega)) (bd_new hB q6 q7 (by omega) q8)
theorem cls_key {n : Nat} {g : Gm} {S : Sg} {f h a b : Int32} {Q : Nat → Int32 → Sg → Prop} (hC : cC S g) (hI : Iv g) (hB : Bd n S) (hn : n < 20000) (hQ : cPost n (rKey g f h a b) S Q) : w_X7_key f h a b S Q := by
  obtain ⟨b1, b2⟩ := bd_room hB (by omega) hC (i_n hI)
  obtain ⟨-, -, -, -, -, -, -, -, n1, n2, -⟩ := i_n hI
  unfold w_X7_key
  refine filmAt_ok hC (fun r1 => kz ?_) (fun r1 => cThr1 (by decide) hC hI hB hn (cP_of hQ (if_neg (fun q => r1 q.1))))
  refine hallAt_ok hC (fun r2 => kz ?_) (fun r2 => cThr1 (by decide) hC hI hB hn (cP_of hQ (if_neg (fun q => r2 q.2))))
  refine needWithin_ok (fun r4 => kz ?_) (fun r4 => cThr1 (by decide) hC hI hB hn (cP_of hQ (by unfold rKey; rw [if_pos ⟨r1, r2⟩, if_neg (fun q => r4 q.1)])))
  refine needWithin_ok (fun r5 => kz ?_) (fun r5 => cThr1 (by decide) hC hI hB hn (cP_of hQ (by unfold rKey; rw [if_pos ⟨r1, r2⟩, if_neg (fun q => r5 q.2)])))
  unfold w_size
  rw [c_12_2 hC]
  refine kz ⟨fun r3 => ⟨⟨by omega, by omega⟩, ?_⟩, fun r3 => cThr hC hI hB hn (cP_of hQ (by unfold rKey; rw [if_pos ⟨r1, r2⟩, if_pos ⟨r4, r5⟩, if_pos (by lia)]))⟩
  have hQ := cP_of hQ (show rKey g f h a b = (0, g 316 0, gKey g f h a b) by unfold rKey; rw [if_pos ⟨r1, r2⟩, if_pos ⟨r4, r5⟩, if_neg (by lia)])
  intro v11 e11 S0 e0
  have e11 : v11 = g 316 0 := e11.trans (c_10_5 hC)
  subst e11
  have y9 : S0.1 30 (nt f) = f := by rw [e0, nu_ne (by decide) (Or.inr (by decide))]; exact c_30 hC r1.1 r1.2
  have y8 : S0.1 20 (nt h) = h := by rw [e0, nu_ne (by decide) (Or.inr (by decide))]; exact c_20 hC r2.1 r2.2
  rw [y9, y8]
  unfold w_X3_init
  intro S1 e1 S2 e2 S3 e3 S4 e4
  refine kz (aKey hC hI.1 r3 e0 e1 e2 e3 e4 ⟨by omega, by omega⟩ fun T ⟨q1, q2, q3, q4⟩ q5 q5b q6 q7 q8 q9 => kz (kz ?_))
  rw [q9, i32_sub1]
  obtain ⟨p1, p2, p3, p4⟩ := cSpec (g1 := gKey g f h a b) hC (S1 := T) (fun c i h => q5b c i (by omega)) rfl (fun s => rfl) (fun s a9 b9 => rfl) (fun c i h1 h2 => by unfold gKey; rw [gu_ne (Or.inl (by omega)), gu_ne (Or.inl (by omega)), gu_ne (Or.inl (by omega)), gu_ne (Or.inl (by omega)), gu_ne (Or.inl (by omega))])
  exact hQ T ⟨q1, q2, q3, q4, p1, p2, p3, p4⟩ (fun c i h => q5b c i (by have := mc_lc h; omega)) (bd_new hB q6 q7 (by omega) q8)
theorem n336 {g : Gm} (h : I_n g) : 0 ≤ g 336 0 ∧ g 336 0 ≤ 400 := by
  obtain ⟨-, -, -, -, -, -, -, -, -, -, -, -, -, -, h1, h2⟩ := h
  exact ⟨h1, h2⟩
theorem cls_lamp {n : Nat} {g : Gm} {S : Sg} {h m x : Int32} {Q : Nat → Int32 → Sg → Prop} (hC : cC S g) (hI : Iv g) (hB : Bd n S) (hn : n < 20000) (hQ : cPost n (rLamp g h m x) S Q) : w_X7_lamp h m x S Q := by
  unfold w_X7_lamp
  refine hallAt_ok hC (fun r1 => kz ?_) (fun r1 => cThr1 (by decide) hC hI hB hn (cP_of hQ (if_neg r1)))
  refine needWithin_ok (fun r2 => kz ?_) (fun r2 => cThr1 (by decide) hC hI hB hn (cP_of hQ (by unfold rLamp; rw [if_pos r1, if_neg r2])))
  have hQ := cP_of hQ (show rLamp g h m x = (0, g 105 (nt h), gLamp g h m x) by unfold rLamp; rw [if_pos r1, if_pos r2])
  rintro v7 rfl S8 rfl
  have k1 := cC_su (i := h) (v := m) (show (24, 106, 302) ∈ colT by decide) (by omega) (n336 (i_n hI)) hC
  refine ⟨fun r3 => ?_, fun r3 => ?_⟩
  · rw [c_23 hC r1.1 r1.2]
    refine hQ _ ?_ (fr_su fr_rf (by unfold mc; omega)) (bd_up (bd_same hB rfl (fun i => su_ne (by simp))))
    have e : gLamp g h m x = gu g 106 (nt h) m := by
      funext c i
      unfold gLamp
      rw [if_pos r3]
      by_cases e : c = 105 ∧ i = nt h
      · rw [e.1, e.2, gu_at, gu_ne (by simp)]
      · rw [gu_ne (by omega)]
    rw [e]; exact k1
  · rintro S9 rfl
    rw [c_23 hC r1.1 r1.2]
    refine hQ _ ?_ (fr_su (fr_su fr_rf (by unfold mc; omega)) (by unfold mc; omega)) (bd_up (bd_same hB rfl (fun i => by rw [su_ne (by simp), su_ne (by simp)])))
    have e : gLamp g h m x = gu (gu g 106 (nt h) m) 105 (nt h) 0 := by unfold gLamp; rw [if_neg r3]
    rw [e]; exact cC_su (show (23, 105, 302) ∈ colT by decide) (by omega) (n336 (i_n hI)) k1
theorem cls_terms {n : Nat} {g : Gm} {S : Sg} {f a b c d e : Int32} {Q : Nat → Int32 → Sg → Prop} (hC : cC S g) (hI : Iv g) (hB : Bd n S) (hn : n < 20000) (hQ : cPost n (rTerms g f a b c d e) S Q) : w_X7_terms f a b c d e S Q := by
  unfold w_X7_terms
  refine filmAt_ok hC (fun r1 => kz ?_) (fun r1 => cThr1 (by decide) hC hI hB hn (cP_of hQ (if_neg r1)))
  refine needWithin_ok (fun r2 => kz ?_) (fun r2 => cThr1 (by decide) hC hI hB hn (cP_of hQ (by unfold rTerms; rw [if_pos r1, if_neg (fun q => r2 q.1)])))
  refine needWithin_ok (fun r3 => kz ?_) (fun r2 => cThr1 (by decide) hC hI hB hn (cP_of hQ (by unfold rTerms; rw [if_pos r1, if_neg (fun q => r2 q.2.1)])))
  refine needWithin_ok (fun r4 => kz ?_) (fun r2 => cThr1 (by decide) hC hI hB hn (cP_of hQ (by unfold rTerms; rw [if_pos r1, if_neg (fun q => r2 q.2.2.1)])))
  refine needWithin_ok (fun r5 => kz ?_) (fun r2 => cThr1 (by decide) hC hI hB hn (cP_of hQ (by unfold rTerms; rw [if_pos r1, if_neg (fun q => r2 q.2.2.2.1)])))
  refine needWithin_ok (fun r6 => kz ?_) (fun r2 => cThr1 (by decide) hC hI hB hn (cP_of hQ (by unfold rTerms; rw [if_pos r1, if_neg (fun q => r2 q.2.2.2.2)])))
  have hQ := cP_of hQ (show rTerms g f a b c d e = (0, 0, gTerms g f a b c d e) by unfold rTerms; rw [if_pos r1, if_pos ⟨r2, r3, r4, r5, r6⟩])
  rintro S1 rfl S2 rfl S3 rfl S4 rfl S5 rfl
  have n3 := n336 (i_n hI)
  have k1 := cC_su (i := f) (v := a) (show (34, 111, 307) ∈ colT by decide) (by omega) n3 hC
  have k2 := cC_su (i := f) (v := b) (show (35, 112, 307) ∈ colT by decide) (by omega) (by exact n3) k1
  have k3 := cC_su (i := f) (v := c) (show (36, 113, 307) ∈ colT by decide) (by omega) (by exact n3) k2
  have k4 := cC_su (i := f) (v := d) (show (37, 114, 307) ∈ colT by decide) (by omega) (by exact n3) k3
  have k5 := cC_su (i := f) (v := e) (show (38, 115, 307) ∈ colT by decide) (by omega) (by exact n3) k4
  exact hQ _ k5 (fr_su (fr_su (fr_su (fr_su (fr_su fr_rf (by unfold mc; omega)) (by unfold mc; omega)) (by unfold mc; omega)) (by unfold mc; omega)) (by unfold mc; omega)) (bd_up (bd_same hB rfl (fun i => by rw [su_ne (by simp), su_ne (by simp), su_ne (by simp), su_ne (by simp), su_ne (by simp)])))
theorem cls_spread {n : Nat} {g : Gm} {S : Sg} {m : Int32} {Q : Nat → Int32 → Sg → Prop} (hC : cC S g) (hI : Iv g) (hB : Bd n S) (hn : n < 20000) (hQ : cPost n (rSpread g m) S Q) : w_X7_spread m S Q := by
  unfold w_X7_spread
  refine needWithin_ok (fun r2 => kz ?_) (fun r2 => cThr1 (by decide) hC hI hB hn (cP_of hQ (by unfold rSpread; rw [if_neg r2])))
  have hQ := cP_of hQ (show rSpread g m = (0, g 301 0, gu g 301 0 m) by unfold rSpread; rw [if_pos r2])
  rintro v7 rfl S8 rfl
  rw [c_7_0 hC]
  exact hQ _ (cC_num (by omega) hC) (fr_su fr_rf (by unfold mc; omega)) (bd_up (bd_same hB rfl (fun i => su_ne (by simp))))
