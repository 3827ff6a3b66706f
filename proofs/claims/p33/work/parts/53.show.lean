/-! show: both sides -/
section SW
variable {n : Nat} {g : Gm} {S S0 : Sg} {Q : Nat → Int32 → Sg → Prop}
theorem fill_ok {a len : Int32} (hl : S.1 58 (nt a) = len) (l0 : 0 ≤ len) (l1 : len ≤ 48) (q : ∀ U, (∀ c i, c ≠ 1000 + 2 * nt a → U.1 c i = S.1 c i) → (∀ p : Int32, 0 ≤ p → p < len → U.1 (1000 + 2 * nt a) (nt p) = -1) → U.2 = S.2 → Q 0 0 U) : w_J7_fill_53178 a (-1) S Q := by
  have L : ∀ (d : Nat) (x : Int32) (T : Sg), 0 ≤ x → x + nI d = len → x ≤ len → (∀ c i, c ≠ 1000 + 2 * nt a → T.1 c i = S.1 c i) → (∀ p : Int32, 0 ≤ p → p < x → T.1 (1000 + 2 * nt a) (nt p) = -1) → T.2 = S.2 → w_J7_fill_53178_5 Q (d + 1) a (-1) x len T := by
    intro d
    induction d with
    | zero =>
      intro x T x0 x1 x2 t1 t2 t3
      have e : x = len := by rw [← x1]; show x = x + 0; lia
      subst e
      rw [w_J7_fill_53178_5]
      exact ⟨fun _ => q T t1 t2 t3, fun z => by lia⟩
    | succ d ih =>
      intro x T x0 x1 x2 t1 t2 t3
      rw [w_J7_fill_53178_5]
      refine ⟨fun z => ?_, fun z => ?_⟩
      · have e : x = len := by lia
        subst e
        exact q T t1 t2 t3
      · have y58 : T.1 58 (nt a) = len := by rw [t1 58 _ (by omega)]; exact hl
        rw [y58]
        refine ⟨vp_of2 x0 (by lia), ?_⟩
        rintro S1 rfl
        refine ih (x + 1) _ (by lia) (by rw [nI1] at x1; lia) (by lia) (fun c i hc => by rw [su_ne (Or.inl hc)]; exact t1 c i hc) (fun p p0 p1 => ?_) t3
        by_cases e : p = x
        · rw [e, su_at]
        · rw [su_ne (Or.inr (fun z => e ((nt_inj p0 x0).mp z)))]
          exact t2 p p0 (by lia)
  unfold w_J7_fill_53178
  rw [hl, nI_nt0 l0]
  intro v ev
  rw [ev]
  exact ⟨nt len + 1, L _ 0 S (by decide) (by rw [nI_nt0 l0]; lia) l0 (fun _ _ _ => rfl) (fun p p0 p1 => by lia) rfl⟩
theorem cls_show {f h t : Int32} (hC : cC S g) (hI : Iv g) (hB : Bd n S) (hn : n < 20000) (hQ : cPost n (rShow g f h t) S Q) : w_X7_show f h t S Q := by
  obtain ⟨b1, b2⟩ := bd_room hB (by omega) hC (i_n hI)
  have n3 := n321 (i_n hI)
  have n6 := n336 (i_n hI)
  have hI1 := hI.1
  unfold w_X7_show
  refine filmAt_ok hC (fun r1 => kz ?_) (fun r1 => cThr1 (by decide) hC hI hB hn (cP_of hQ (if_neg (fun q => r1 q.1))))
  refine hallAt_ok hC (fun r2 => kz ?_) (fun r2 => cThr1 (by decide) hC hI hB hn (cP_of hQ (if_neg (fun q => r2 q.2))))
  rw [c_6_0 hC]
  refine needWithin_ok (fun r3 => kz ?_) (fun r3 => cThr1 (by decide) hC hI hB hn (cP_of hQ (by unfold rShow; rw [if_pos ⟨r1, r2⟩, if_neg r3])))
  unfold w_size
  rw [c_12_3 hC]
  refine kz ⟨fun r4 => ?_, fun r4 => cThr hC hI hB hn (cP_of hQ (by unfold rShow; rw [if_pos ⟨r1, r2⟩, if_pos r3, if_pos (by obtain ⟨-, -, -, -, -, -, -, -, -, -, -, b12, -⟩ := i_n hI; lia)]))⟩
  refine against_ok hC hI1 r1 r2 (t_rng (i_n hI) r3) (kz ⟨fun r5 => ?_, fun r5 => cThr hC hI hB hn (cP_of hQ (by unfold rShow; rw [if_pos ⟨r1, r2⟩, if_pos r3, if_neg (by lia), if_neg r5]))⟩)
  have hQ := cP_of hQ (show rShow g f h t = (0, g 321 0, gShow g f h t) by unfold rShow; rw [if_pos ⟨r1, r2⟩, if_pos r3, if_neg (by lia), if_pos r5])
  refine ⟨⟨by omega, by omega⟩, ?_⟩
  intro v e S0 e0
  have e : v = g 321 0 := e.trans (c_10_6 hC)
  subst e
  have y0 : S0.1 12 3 = g 321 0 := by rw [e0, nu_ne (by decide) (Or.inr (by decide))]; exact c_12_3 hC
  rw [y0]
  refine kz ?_
  have es0 : S0.2 = (S.2.1 + 1, S.2.2 + 8) := by rw [e0]; rfl
  unfold w_X5_init
  refine ⟨⟨by rw [es0]; show S.2.1 + 1 + 1 ≤ _; omega, by rw [es0]; show S.2.2 + 8 + 3 ≤ _; omega⟩, ?_⟩
  intro v2 ev S1 e1
  have ev : v2 = g 321 0 := by rw [ev, e0, nu_10, if_neg (by decide)]; exact c_10_9 hC
  subst ev
  have es1 : S1.2 = (S.2.1 + 2, S.2.2 + 11) := by rw [e1]; show (S0.2.1 + 1, S0.2.2 + 3) = _; rw [es0]
  unfold w_X4_init
  refine ⟨⟨by rw [es1]; show S.2.1 + 2 + 1 ≤ _; omega, by rw [es1]; show S.2.2 + 11 + 40 ≤ _; omega⟩, ?_⟩
  intro v3 ev S2 e2
  have ev : v3 = g 321 0 := by rw [ev, e1, nu_10, if_neg (by decide), e0, nu_10, if_neg (by decide)]; exact c_10_11 hC
  subst ev
  refine ⟨by lia, ?_⟩
  intro S3 e3 S4 e4 S5 e5
  refine kz ⟨by lia, ?_⟩
  intro S6 e6 S7 e7 S8 e8 S9 e9
  refine ⟨by have := r1.1; lia, ?_⟩
  intro S10 e10
  refine ⟨by have := r2.1; lia, ?_⟩
  intro S11 e11 S12 e12
  -- what stands before the places
  have k0 : nt (S.1 10 6) = nt (g 321 0) := by rw [c_10_6 hC]
  have k1 : nt (S0.1 10 9) = nt (g 321 0) := by rw [e0, nu_10, if_neg (by decide), c_10_9 hC]
  have k2 : nt (S1.1 10 11) = nt (g 321 0) := by rw [e1, nu_10, if_neg (by decide), e0, nu_10, if_neg (by decide), c_10_11 hC]
  have hA12 : ∀ c i, c ≠ 10 → c ≠ 1001 + 2 * nt (g 321 0) → (c ∈ [50, 51, 52, 53, 54, 55, 56, 57, 80, 81, 82] → i ≠ nt (g 321 0)) → S12.1 c i = S.1 c i := fun c i h1 h2 h3 => by
    have hh : c ∉ [50, 51, 52, 53, 54, 55, 56, 57, 80, 81, 82] ∨ i ≠ nt (g 321 0) := by by_cases q : c ∈ [50, 51, 52, 53, 54, 55, 56, 57, 80, 81, 82]; exact Or.inr (h3 q); exact Or.inl q
    have z1 : ∀ d ∈ fdShow, d.2.1 ∈ [50, 51, 52, 53, 54, 55, 56, 57, 80, 81, 82] := by decide
    have z2 : ∀ d ∈ fdLine, d.2.1 ∈ [50, 51, 52, 53, 54, 55, 56, 57, 80, 81, 82] := by decide
    rw [e12, suK hh (by decide), e11, suK hh (by decide), e10, suK hh (by decide), e9, suK hh (by decide), e8, suK hh (by decide), e7, suK hh (by decide), e6, suK hh (by decide), e5, suK hh (by decide), e4, suK hh (by decide), e3, suK hh (by decide), e2, nag_ne h1 (by rw [k2]; exact h2), e1, nu_ne h1 (by rw [k1]; exact hh.symm.imp_right (fun q d hd _ e9 => q (by rw [← e9]; exact z2 d hd))), e0, nu_ne h1 (by rw [k0]; exact hh.symm.imp_right (fun q d hd _ e9 => q (by rw [← e9]; exact z1 d hd)))]
  have h1012 : ∀ k, S12.1 10 k = if k = 11 then g 321 0 + 1 else if k = 9 then g 321 0 + 1 else if k = 6 then g 321 0 + 1 else S.1 10 k := fun k => by
    rw [e12, su_ne (by simp), e11, su_ne (by simp), e10, su_ne (by simp), e9, su_ne (by simp), e8, su_ne (by simp), e7, su_ne (by simp), e6, su_ne (by simp), e5, su_ne (by simp), e4, su_ne (by simp), e3, su_ne (by simp), e2]
    show (if k = 11 then S1.1 10 11 + 1 else S1.1 10 k) = _
    rw [e1, nu_10, nu_10, e0, nu_10, nu_10, nu_10]
    by_cases q1 : k = 11
    · rw [if_pos q1, if_pos q1, if_neg (by decide), if_neg (by decide), c_10_11 hC]
    · rw [if_neg q1, if_neg q1]
      by_cases q2 : k = 9
      · rw [if_pos q2, if_pos q2, if_neg (by decide), c_10_9 hC]
      · rw [if_neg q2, if_neg q2]
        by_cases q3 : k = 6
        · rw [if_pos q3, if_pos q3, c_10_6 hC]
        · rw [if_neg q3, if_neg q3]
  have es12 : S12.2 = (S.2.1 + 3, S.2.2 + 51) := by
    rw [e12, e11, e10, e9, e8, e7, e6, e5, e4, e3, e2]
    show (S1.2.1 + 1, S1.2.2 + 40) = _
    rw [es1]
  have y21 : S12.1 21 (nt h) = g 103 (nt h) := by rw [hA12 21 _ (by decide) (by omega) (fun z => absurd z (by decide))]; exact c_21 hC r2.1 r2.2
  have y22 : S12.1 22 (nt h) = g 104 (nt h) := by rw [hA12 22 _ (by decide) (by omega) (fun z => absurd z (by decide))]; exact c_22 hC r2.1 r2.2
  rw [y21, y22]
  obtain ⟨h1, h2, h3, h4⟩ := i_h hI h r2.1 r2.2
  have hL : 1 ≤ g 103 (nt h) * g 104 (nt h) ∧ g 103 (nt h) * g 104 (nt h) ≤ 48 := by
    have n1 : (1 : Int32).toInt = 1 := rfl
    have n66 : (6 : Int32).toInt = 6 := rfl
    have n8 : (8 : Int32).toInt = 8 := rfl
    have n48 : (48 : Int32).toInt = 48 := rfl
    rw [z_le] at h1 h2 h3 h4
    have a1 : 1 * 1 ≤ (g 103 (nt h)).toInt * (g 104 (nt h)).toInt := Int.mul_le_mul (by omega) (by omega) (by omega) (by omega)
    have a2 : (g 103 (nt h)).toInt * (g 104 (nt h)).toInt ≤ 6 * 8 := Int.mul_le_mul (by omega) (by omega) (by omega) (by omega)
    rw [z_le, z_le, z_mul (by omega) (by omega)]
    omega
  have hw : wd (gShow g f h t) (g 321 0) = g 103 (nt h) * g 104 (nt h) := by
    have q1 : gShow g f h t 123 (nt (g 321 0)) = h := by unfold gShow; rw [gu_ne (by simp), gu_ne (by simp), gu_at]
    have q2 : gShow g f h t 103 (nt h) = g 103 (nt h) := rfl
    have q3 : gShow g f h t 104 (nt h) = g 104 (nt h) := rfl
    unfold wd
    rw [q1, q2, q3]
  revert hL hw
  generalize hLd : g 103 (nt h) * g 104 (nt h) = L
  intro hL hw
  have hLn := nt_le (n := 48) (by decide) (show L ≤ nI 48 from hL.2)
  refine ⟨⟨by lia, by omega, by rw [es12]; show S.2.1 + 3 + 1 ≤ _; omega, by rw [es12]; show S.2.2 + 51 + nt L ≤ _; omega⟩, ?_⟩
  intro v14 ev S13 e13
  have ev : v14 = g 321 0 := by rw [ev, h1012, if_neg (by decide), if_neg (by decide), if_neg (by decide)]; exact c_10_10 hC
  subst ev
  have k3 : nt (S12.1 10 10) = nt (g 321 0) := by rw [h1012, if_neg (by decide), if_neg (by decide), if_neg (by decide), c_10_10 hC]
  have y58 : S13.1 58 (nt (g 321 0)) = L := by
    have := npl_58 (S := S12) (x := L)
    rw [k3] at this
    rw [e13]; exact this
  refine fill_ok y58 (by lia) hL.2 (fun U u1 u2 u3 => kz ⟨by lia, ?_⟩)
  intro F eF
  refine kz ?_
  -- the whole of it
  have hA : ∀ c i, c ≠ 10 → c ≠ 1000 + 2 * nt (g 321 0) → c ≠ 1001 + 2 * nt (g 321 0) → (c ∈ [50, 51, 52, 53, 54, 55, 56, 57, 58, 80, 81, 82] → i ≠ nt (g 321 0)) → F.1 c i = S.1 c i := fun c i h1 h2 h3 h4 => by
    have z1 : ∀ c ∈ [50, 51, 52, 53, 54, 55, 56, 57, 80, 81, 82], c ∈ [50, 51, 52, 53, 54, 55, 56, 57, 58, 80, 81, 82] := by decide
    rw [eF, su_ne (by by_cases z : c = 54; exact Or.inr (h4 (by rw [z]; decide)); exact Or.inl z), u1 c i h2, e13, npl_ne h1 (by rw [k3]; by_cases z : c = 58; exact Or.inr (h4 (by rw [z]; decide)); exact Or.inl z) (by rw [k3]; exact h2), hA12 c i h1 h3 (fun q => h4 (z1 c q))]
  have h10 : ∀ k, F.1 10 k = if k = 10 then g 321 0 + 1 else if k = 11 then g 321 0 + 1 else if k = 9 then g 321 0 + 1 else if k = 6 then g 321 0 + 1 else S.1 10 k := fun k => by
    rw [eF, su_ne (by simp), u1 10 k (by omega), e13]
    show (if k = 10 then S12.1 10 10 + 1 else S12.1 10 k) = _
    rw [h1012, h1012]
    by_cases q : k = 10
    · rw [if_pos q, if_pos q, if_neg (by decide), if_neg (by decide), if_neg (by decide), c_10_10 hC]
    · rw [if_neg q, if_neg q]
  have chain : ∀ c, c ≠ 54 → c ≠ 58 → c < 1000 → c ≠ 10 → F.1 c (nt (g 321 0)) = S12.1 c (nt (g 321 0)) := fun c c1 c2 c3 c4 => by
    rw [eF, su_ne (Or.inl c1), u1 c _ (by omega), e13, npl_ne c4 (Or.inl c2) (by omega)]
  have f50 : F.1 50 (nt (g 321 0)) = g 321 0 := by rw [chain 50 (by decide) (by decide) (by decide) (by decide), e12, su_ne (by simp), e11, su_ne (by simp), e10, su_ne (by simp), e9, su_at]
  have f51 : F.1 51 (nt (g 321 0)) = f := by rw [chain 51 (by decide) (by decide) (by decide) (by decide), e12, su_ne (by simp), e11, su_ne (by simp), e10, su_at]
  have f52 : F.1 52 (nt (g 321 0)) = h := by rw [chain 52 (by decide) (by decide) (by decide) (by decide), e12, su_ne (by simp), e11, su_at]
  have f53 : F.1 53 (nt (g 321 0)) = t := by rw [chain 53 (by decide) (by decide) (by decide) (by decide), e12, su_at]
  have f54 : F.1 54 (nt (g 321 0)) = g 321 0 := by rw [eF, su_at]
  have f55 : F.1 55 (nt (g 321 0)) = g 321 0 := by rw [chain 55 (by decide) (by decide) (by decide) (by decide), e12, su_ne (by simp), e11, su_ne (by simp), e10, su_ne (by simp), e9, su_ne (by simp), e8, su_ne (by simp), e7, su_ne (by simp), e6, su_at]
  have f56 : F.1 56 (nt (g 321 0)) = 0 := by rw [chain 56 (by decide) (by decide) (by decide) (by decide), e12, su_ne (by simp), e11, su_ne (by simp), e10, su_ne (by simp), e9, su_ne (by simp), e8, su_ne (by simp), e7, su_at]
  have f57 : F.1 57 (nt (g 321 0)) = 0 := by rw [chain 57 (by decide) (by decide) (by decide) (by decide), e12, su_ne (by simp), e11, su_ne (by simp), e10, su_ne (by simp), e9, su_ne (by simp), e8, su_at]
  have f58 : F.1 58 (nt (g 321 0)) = L := by rw [eF, su_ne (by simp), u1 58 _ (by omega)]; exact y58
  have f80 : F.1 80 (nt (g 321 0)) = g 321 0 := by rw [chain 80 (by decide) (by decide) (by decide) (by decide), e12, su_ne (by simp), e11, su_ne (by simp), e10, su_ne (by simp), e9, su_ne (by simp), e8, su_ne (by simp), e7, su_ne (by simp), e6, su_ne (by simp), e5, su_ne (by simp), e4, su_ne (by simp), e3, su_at]
  have f81 : F.1 81 (nt (g 321 0)) = 0 := by rw [chain 81 (by decide) (by decide) (by decide) (by decide), e12, su_ne (by simp), e11, su_ne (by simp), e10, su_ne (by simp), e9, su_ne (by simp), e8, su_ne (by simp), e7, su_ne (by simp), e6, su_ne (by simp), e5, su_ne (by simp), e4, su_at]
  have f82 : F.1 82 (nt (g 321 0)) = 0 := by rw [chain 82 (by decide) (by decide) (by decide) (by decide), e12, su_ne (by simp), e11, su_ne (by simp), e10, su_ne (by simp), e9, su_ne (by simp), e8, su_ne (by simp), e7, su_ne (by simp), e6, su_ne (by simp), e5, su_at]
  have esF : F.2 = (S.2.1 + 4, S.2.2 + 51 + nt L) := by
    rw [eF]
    show U.2 = _
    rw [u3, e13]
    show (S12.2.1 + 1, S12.2.2 + nt L) = _
    rw [es12]
  have yF : F.1 12 3 = g 321 0 := by rw [hA 12 3 (by decide) (by omega) (by omega) (fun z => absurd z (by decide))]; exact c_12_3 hC
  have y13 : F.1 13 3 = S.1 13 3 := hA 13 3 (by decide) (by omega) (by omega) (fun z => absurd z (by decide))
  have hn30 := nt_le (x := g 321 0) (n := 400) (by decide) n3.2
  unfold w_add
  refine ⟨⟨yF.symm, by omega, by rw [y13]; exact c_13 hC (by decide), by rw [esF]; show S.2.1 + 4 + 1 ≤ _; omega, by rw [esF]; show S.2.2 + 51 + nt L + 700 ≤ _; omega⟩, fun T hadd => kz (kz ?_)⟩
  obtain ⟨d0, d1⟩ := i_su hI (g 321 0) (by lia) r4
  have gq : ∀ c i, (c = 122 ∨ c = 123 ∨ c = 124 → i ≠ nt (g 321 0)) → c ≠ 321 → gShow g f h t c i = g c i := fun c i h1 h2 => by
    unfold gShow
    rw [gu_ne (Or.inl h2), gu_ne (by by_cases z : c = 124; exact Or.inr (h1 (Or.inr (Or.inr z))); exact Or.inl z), gu_ne (by by_cases z : c = 123; exact Or.inr (h1 (Or.inr (Or.inl z))); exact Or.inl z), gu_ne (by by_cases z : c = 122; exact Or.inr (h1 (Or.inl z)); exact Or.inl z)]
  have g122 : gShow g f h t 122 (nt (g 321 0)) = f := by unfold gShow; rw [gu_ne (by simp), gu_ne (by simp), gu_ne (by simp), gu_at]
  have g123 : gShow g f h t 123 (nt (g 321 0)) = h := by unfold gShow; rw [gu_ne (by simp), gu_ne (by simp), gu_at]
  have g124 : gShow g f h t 124 (nt (g 321 0)) = t := by unfold gShow; rw [gu_ne (by simp), gu_at]
  obtain ⟨q1, q2, q3, q4⟩ := cNew (S0 := F) (S1 := T) (g1 := gShow g f h t) (K := [50, 51, 52, 53, 54, 55, 56, 57, 58, 80, 81, 82]) (N := 321) (j := 3) hC n3 (by refine ⟨?_, ?_, ?_, ?_, ?_⟩ <;> decide) (fun c i h1 h2 h3 => hA c i h1 (by omega) (by omega) h3)
    (fun q hq eq => by
      have z : ∀ q ∈ scT, q.1 = 10 → (q.2.2 = 321 ↔ (q.2.1 = 10 ∨ q.2.1 = 11 ∨ q.2.1 = 9 ∨ q.2.1 = 6)) := by decide
      have hh := hC.2.2.1 q hq
      rw [eq] at hh
      rw [h10]
      have z := z q hq eq
      by_cases w1 : q.2.1 = 10
      · rw [if_pos w1, if_pos (z.mpr (Or.inl w1))]
      · rw [if_neg w1]
        by_cases w2 : q.2.1 = 11
        · rw [if_pos w2, if_pos (z.mpr (Or.inr (Or.inl w2)))]
        · rw [if_neg w2]
          by_cases w3 : q.2.1 = 9
          · rw [if_pos w3, if_pos (z.mpr (Or.inr (Or.inr (Or.inl w3))))]
          · rw [if_neg w3]
            by_cases w4 : q.2.1 = 6
            · rw [if_pos w4, if_pos (z.mpr (Or.inr (Or.inr (Or.inr w4))))]
            · rw [if_neg w4, if_neg (fun u => by have := z.mp u; omega), hh])
    hadd
    (fun q hq i h1 => by
      have z : ∀ q ∈ colT, (q.2.1 = 122 ∨ q.2.1 = 123 ∨ q.2.1 = 124 → q.2.2 = 321) ∧ q.2.1 < 300 := by decide
      have z := z q hq
      exact gq _ _ (fun u => h1 (z.1 u)) (by omega))
    (fun c hc => by
      by_cases u : c = 321
      · rw [if_pos u, u]; rfl
      · rw [if_neg u, gq c 0 (fun u => by omega) u])
    (fun q hq eq => by
      have z : ∀ q ∈ colT, q.2.2 = 321 → q = (51, 122, 321) ∨ q = (52, 123, 321) ∨ q = (53, 124, 321) ∨ q = (56, 125, 321) ∨ q = (82, 128, 321) := by decide
      rcases z q hq eq with u | u | u | u | u
      · rw [u]; exact f51.trans g122.symm
      · rw [u]; exact f52.trans g123.symm
      · rw [u]; exact f53.trans g124.symm
      · rw [u]; exact f56.trans d0.symm
      · rw [u]; exact f82.trans d1.symm)
    (fun q hq eq => by
      have z : ∀ q ∈ idT, q.2 = 321 → q = (50, 321) ∨ q = (54, 321) ∨ q = (55, 321) ∨ q = (80, 321) := by decide
      rcases z q hq eq with u | u | u | u <;> rw [u]
      · exact f50
      · exact f54
      · exact f55
      · exact f80)
  have e12T : T.1 12 3 = g 321 0 + 1 := by rw [hadd.2.2.1, if_pos rfl, yF]
  rw [e12T, i32_sub1]
  have tF : ∀ c i, ¬ lsC c → T.1 c i = F.1 c i := fun c i hc => add_ne hadd hc
  have old : ∀ x : Int32, 0 ≤ x → x < g 321 0 → nt x ≠ nt (g 321 0) := fun x x0 x1 z => by rw [(nt_inj x0 n3.1).mp z] at x1; lia
  have wdo : ∀ x : Int32, 0 ≤ x → x < g 321 0 → wd (gShow g f h t) x = wd g x := fun x x0 x1 => by
    unfold wd
    rw [gq 123 _ (fun _ => old x x0 x1) (by decide)]
    rfl
  have pfo : ∀ x, pf (gShow g f h t) x = pf g x := fun x => rfl
  refine hQ T ⟨q1, q2, q3, q4, fun x x0 x1 => ?_, fun x x0 x1 => ?_, fun x x0 x1 => ?_, fun x p x0 x1 p0 p1 => ?_⟩ (fun c i hc => ?_) ?_
  · have x1 : x < g 321 0 + 1 := x1
    rw [tF _ _ (by unfold lsC; omega), pfo]
    rcases i32_lt1 x1 n3.1 (by lia) with z | z
    · rw [hA 57 _ (by decide) (by omega) (by omega) (fun _ => old x x0 z)]; exact c_57 hC x0 z
    · rw [z, f57]
      unfold pf
      symm
      refine sm_zero _ (nt_lt32 _) (fun k k0 k1 => ?_)
      rw [nI_nt0 n6.1] at k1
      obtain ⟨-, s1, -⟩ := ia_t hI1 k k0 k1
      rw [if_neg (fun u => by rw [u] at s1; lia)]
  · have x1 : x < g 321 0 + 1 := x1
    rw [tF _ _ (by unfold lsC; omega)]
    rcases i32_lt1 x1 n3.1 (by lia) with z | z
    · rw [hA 58 _ (by decide) (by omega) (by omega) (fun _ => old x x0 z), wdo x x0 z]; exact c_58 hC x0 z
    · rw [z, f58, hw]
  · have x1 : x < g 321 0 + 1 := x1
    rw [tF _ _ (by unfold lsC; omega)]
    rcases i32_lt1 x1 n3.1 (by lia) with z | z
    · have ne := old x x0 z
      rw [hA 81 _ (by decide) (by omega) (by omega) (fun _ => ne)]
      obtain ⟨j1, j2, j3⟩ := c_ln hC x0 z
      refine ⟨j1, j2, fun k k0 k1 => ?_⟩
      rw [tF _ _ (by unfold lsC; omega), hA _ _ (by omega) (by omega) (by omega) (fun u => by simp only [List.mem_cons, List.not_mem_nil, or_false] at u; omega)]
      exact j3 k k0 k1
    · rw [z, f81]
      have e8 : gShow g f h t 128 (nt (g 321 0)) = 0 := d1
      dsimp only
      rw [e8]
      exact ⟨by decide, by decide, fun k k0 k1 => by lia⟩
  · have x1 : x < g 321 0 + 1 := x1
    rw [tF _ _ (by unfold lsC; omega)]
    rcases i32_lt1 x1 n3.1 (by lia) with z | z
    · have ne := old x x0 z
      rw [wdo x x0 z] at p1
      rw [hA _ _ (by omega) (by omega) (by omega) (fun u => by simp only [List.mem_cons, List.not_mem_nil, or_false] at u; omega), c_pl hC x0 z p0 p1]
      rfl
    · subst z
      rw [hw] at p1
      rw [eF, su_ne (Or.inl (by omega)), u2 p p0 p1]
      obtain ⟨w1, w2⟩ := i_pl hI (g 321 0) p n3.1 r4 p0 (by lia)
      have w1 := w1.resolve_right (fun u => by have := u.2.2.2.1; lia)
      have w2 := w2.resolve_right (fun u => by have := u.2.2.1; lia)
      unfold plv
      have a6 : gShow g f h t 126 (nt (48 * g 321 0 + p)) = -1 := w1
      have a7 : gShow g f h t 127 (nt (48 * g 321 0 + p)) = -1 := w2
      dsimp only
      rw [if_pos a6, if_pos a7]
  · have := mc_lc hc
    rw [tF _ _ (by unfold lsC; omega)]
    exact hA c i (by omega) (by omega) (by omega) (fun u => by simp only [List.mem_cons, List.not_mem_nil, or_false] at u; omega)
  · have hb : bz T = bz S + 1 := bz_add (j := 3) (by decide) hadd (fun i => hA 12 i (by decide) (by omega) (by omega) (fun z => absurd z (by decide))) (by rw [c_12_3 hC]; exact n3.1) (by rw [c_12_3 hC]; exact n3.2)
    obtain ⟨z1, z2⟩ := hB
    have eT : T.2 = (S.2.1 + 5, S.2.2 + 51 + nt L + 700) := by rw [hadd.2.2.2.2, esF]
    constructor
    · rw [eT, hb]; show S.2.1 + 5 ≤ _; omega
    · rw [eT, hb]; show S.2.2 + 51 + nt L + 700 ≤ _; omega
end SW
