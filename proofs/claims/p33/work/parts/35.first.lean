/-! fits, first -/
theorem t_rng {g : Gm} (hI : I_n g) {t : Int32} (h : inr t (g 300 0 + 1) 100000) : 0 ≤ t ∧ t ≤ 100000 := by
  obtain ⟨h1, h2, -⟩ := hI
  have := h.1
  have := h.2
  constructor <;> lia
theorem cls_fits {n : Nat} {g : Gm} {S : Sg} {f h t : Int32} {Q : Nat → Int32 → Sg → Prop} (hC : cC S g) (hI : Iv g) (hB : Bd n S) (hn : n < 20000) (hQ : cPost n (rFits g f h t) S Q) : w_X7_fits f h t S Q := by
  unfold w_X7_fits
  refine filmAt_ok hC (fun r1 => kz ?_) (fun r1 => cThr1 (by decide) hC hI hB hn (cP_of hQ (if_neg (fun q => r1 q.1))))
  refine hallAt_ok hC (fun r2 => kz ?_) (fun r2 => cThr1 (by decide) hC hI hB hn (cP_of hQ (if_neg (fun q => r2 q.2))))
  rw [c_6_0 hC]
  refine needWithin_ok (fun r3 => kz ?_) (fun r3 => cThr1 (by decide) hC hI hB hn (cP_of hQ (by unfold rFits; rw [if_pos ⟨r1, r2⟩, if_neg r3])))
  exact against_ok hC hI.1 r1 r2 (t_rng (i_n hI) r3) (kz (cRet hC hB (cP_of hQ (by unfold rFits; rw [if_pos ⟨r1, r2⟩, if_pos r3]))))
theorem fst_no {g : Gm} {f h : Int32} : ∀ (n : Nat) (t : Int32), 0 ≤ t → t ≤ 200000 → n ≤ 20000 → (∀ k : Int32, t ≤ k → k < t + nI n → k ≤ 100000 → rsn g f h k ≠ 0) → fst g f h n t = -1
  | 0, _, _, _, _, _ => rfl
  | n + 1, t, h0, h1, hn, hh => by
    have e0 : (nI n).toInt = n := nI_toInt (by omega)
    have e1 : 0 ≤ nI n ∧ nI n ≤ 20000 := by constructor <;> (rw [z_le]; have : (0 : Int32).toInt = 0 := rfl; have : (20000 : Int32).toInt = 20000 := rfl; omega)
    rw [nI1] at hh
    unfold fst
    split
    · rfl
    · rename_i a
      rw [if_neg (hh t (by lia) (by lia) (by lia))]
      exact fst_no n (t + 1) (by lia) (by lia) (by omega) (fun k k1 k2 k3 => hh k (by lia) (by lia) k3)
theorem fst_at {g : Gm} {f h : Int32} : ∀ (n : Nat) (t s : Int32), 0 ≤ t → t ≤ s → s ≤ 100000 → s < t + nI n → n ≤ 20000 → rsn g f h s = 0 → (∀ k : Int32, t ≤ k → k < s → rsn g f h k ≠ 0) → fst g f h n t = s
  | 0, t, s, h0, h1, h2, h3, _, _, _ => by
    have : t + nI 0 = t := by show t + 0 = t; lia
    rw [this] at h3
    lia
  | n + 1, t, s, h0, h1, h2, h3, hn, hs, hh => by
    have e0 : (nI n).toInt = n := nI_toInt (by omega)
    have e1 : 0 ≤ nI n ∧ nI n ≤ 20000 := by constructor <;> (rw [z_le]; have : (0 : Int32).toInt = 0 := rfl; have : (20000 : Int32).toInt = 20000 := rfl; omega)
    rw [nI1] at h3
    unfold fst
    rw [if_neg (by lia)]
    by_cases e : t = s
    · rw [e, if_pos hs]
    · rw [if_neg (hh t (by lia) (by lia))]
      exact fst_at n (t + 1) s (by lia) (by lia) h2 (by lia) (by omega) hs (fun k k1 k2 => hh k (by lia) k2)
theorem rsn_0 {g : Gm} {f h t : Int32} : rsn g f h t = 0 ↔ (Opn g f h t ∧ ¬ Mts g f h t ∧ ¬ Nrs g h t ∧ brn g f h (nt (g 321 0)) ≤ g 106 (nt h)) := by
  constructor
  · intro e
    by_cases a1 : Opn g f h t
    · by_cases a2 : Mts g f h t
      · rw [rsn2 a1 a2] at e; exact absurd e (by decide)
      · by_cases a3 : Nrs g h t
        · rw [rsn3 a1 a2 a3] at e; exact absurd e (by decide)
        · by_cases a4 : brn g f h (nt (g 321 0)) ≤ g 106 (nt h)
          · exact ⟨a1, a2, a3, a4⟩
          · rw [rsn4 a1 a2 a3 a4] at e; exact absurd e (by decide)
    · rw [rsn1 a1] at e; exact absurd e (by decide)
  · rintro ⟨a1, a2, a3, a4⟩
    exact rsn0 a1 a2 a3 a4
theorem en_rng {g : Gm} (hI : Ia g) {s : Int32} (h0 : 0 ≤ s) (h1 : s < g 321 0) : 1 ≤ g 124 (nt s) ∧ g 124 (nt s) ≤ 100000 ∧ g 124 (nt s) + 30 ≤ en g s ∧ en g s ≤ 100240 := by
  obtain ⟨a, b, c, d, e1, e2, -⟩ := ia_s hI s h0 h1
  obtain ⟨f1, f2, -⟩ := ia_f hI _ a b
  unfold en
  refine ⟨e1, e2, ?_, ?_⟩ <;> lia
/-- nothing of what the next chance looks at lies between t and k -/
theorem gap {g : Gm} {f h t k y : Int32} (hI : Ia g) (hf : isX g 307 f) (h0 : 0 ≤ t) (h1 : t < k) (h2 : k < y) (h3 : y ≤ 100001)
    (hk : ∀ i : Int32, 0 ≤ i → i < g 316 0 → g 119 (nt i) ≤ t ∨ y ≤ g 119 (nt i))
    (hs : ∀ s : Int32, 0 ≤ s → s < g 321 0 → (en g s + 20 ≤ t ∨ y ≤ en g s + 20) ∧ (g 124 (nt s) + g 301 0 ≤ t ∨ y ≤ g 124 (nt s) + g 301 0)) (hr : rsn g f h t ≠ 0) : rsn g f h k ≠ 0 := by
  intro e
  obtain ⟨a1, a2, a3, a4⟩ := rsn_0.mp e
  obtain ⟨p1, p2, -⟩ := ia_f hI f hf.1 hf.2
  obtain ⟨-, -, sp0, sp1, -⟩ := ia_n hI
  refine hr (rsn_0.mpr ⟨?_, ?_, ?_, a4⟩)
  · obtain ⟨i, i1, i2, i3, i4, i5, i6⟩ := a1
    refine ⟨i, i1, i2, i3, i4, ?_, by lia⟩
    rcases hk i i1 i2 with q | q <;> lia
  · rintro ⟨s, s1, s2, s3, s4, s5, s6⟩
    obtain ⟨r1, r2, r3, r4⟩ := en_rng hI s1 s2
    refine a2 ⟨s, s1, s2, s3, s4, ?_, by lia⟩
    rcases (hs s s1 s2).1 with q | q <;> lia
  · rintro ⟨s, s1, s2, s3, s4, s5⟩
    obtain ⟨r1, r2, r3, r4⟩ := en_rng hI s1 s2
    refine a3 ⟨s, s1, s2, s3, s4, ?_⟩
    rcases (hs s s1 s2).2 with q | q
    · split at s5
      · lia
      · split <;> lia
    · split at s5
      · split <;> lia
      · split <;> lia
theorem near_ok {a b c : Int32} {S : Sg} {Q : Nat → Int32 → Sg → Prop} (h : ∀ v, (v = b ∨ v = c) → (a < b → a < v) → v ≤ b → (c ≤ a ∨ v ≤ c) → Q 0 v S) : w_X7_nearerAhead a b c S Q := by
  unfold w_X7_nearerAhead
  refine ⟨fun q => h b (Or.inl rfl) (fun q => q) (by lia) (Or.inl q), fun q => ⟨fun q2 => h b (Or.inl rfl) (fun q => q) (by lia) (Or.inr q2), fun q2 => h c (Or.inr rfl) (fun _ => by lia) (by lia) (Or.inr (by lia))⟩⟩
theorem chance_ok {g : Gm} {S : Sg} {t : Int32} {Q : Nat → Int32 → Sg → Prop} (hC : cC S g) (hI : Ia g) (h0 : 0 ≤ t) (h1 : t ≤ 100000)
    (q : ∀ y : Int32, t < y → y ≤ 100001 → (∀ i : Int32, 0 ≤ i → i < g 316 0 → g 119 (nt i) ≤ t ∨ y ≤ g 119 (nt i)) → (∀ s : Int32, 0 ≤ s → s < g 321 0 → (en g s + 20 ≤ t ∨ y ≤ en g s + 20) ∧ (g 124 (nt s) + g 301 0 ≤ t ∨ y ≤ g 124 (nt s) + g 301 0)) → Q 0 y S) : w_X7_nextChance t S Q := by
  have n3 := n321 (ia_n hI)
  obtain ⟨-, -, sp0, sp1, -, -, -, -, k1, k2, -⟩ := ia_n hI
  have L2 : ∀ (d : Nat) (x y : Int32), 0 ≤ x → x + nI d = g 321 0 → x ≤ g 321 0 → t < y → y ≤ 100001 → (∀ i : Int32, 0 ≤ i → i < g 316 0 → g 119 (nt i) ≤ t ∨ y ≤ g 119 (nt i)) → (∀ s : Int32, 0 ≤ s → s < x → (en g s + 20 ≤ t ∨ y ≤ en g s + 20) ∧ (g 124 (nt s) + g 301 0 ≤ t ∨ y ≤ g 124 (nt s) + g 301 0)) → w_X7_nextChance_45 Q (d + 1) t y x S := by
    intro d
    induction d with
    | zero =>
      intro x y x0 x1 x2 y1 y2 hk hs
      have e : x = g 321 0 := by rw [← x1]; show x = x + 0; lia
      rw [w_X7_nextChance_45]
      unfold w_size
      rw [c_12_3 hC]
      exact kz ⟨fun a => q y y1 y2 hk (e ▸ hs), fun a => by lia⟩
    | succ d ih =>
      intro x y x0 x1 x2 y1 y2 hk hs
      rw [w_X7_nextChance_45]
      unfold w_size w_get
      rw [c_12_3 hC]
      refine kz ⟨fun a => q y y1 y2 hk (fun s s1 s2 => hs s s1 (by lia)), fun a => ⟨⟨by lia, by rw [c_12_3 hC]; lia⟩, kz ?_⟩⟩
      have hx : x < g 321 0 := by lia
      obtain ⟨r1, r2, r3, r4⟩ := en_rng hI x0 hx
      refine end_ok hC hI x0 hx (kz (near_ok fun v _ v2 v3 v4 => kz ?_))
      rw [c_53 hC x0 hx, c_7_0 hC]
      refine near_ok fun w _ w2 w3 w4 => kz (ih (x + 1) w (by lia) (by rw [nI1] at x1; lia) (by lia) (w2 (v2 y1)) (by lia) (fun i i1 i2 => (hk i i1 i2).imp_right (fun z => by lia)) (fun s s1 s2 => ?_))
      rcases i32_lt1 s2 x0 (by lia) with e | e
      · exact ⟨(hs s s1 e).1.imp_right (fun z => by lia), (hs s s1 e).2.imp_right (fun z => by lia)⟩
      · rw [e]; exact ⟨v4.imp_right (fun z => by lia), w4⟩
  have L1 : ∀ (d : Nat) (x y : Int32), 0 ≤ x → x + nI d = g 316 0 → x ≤ g 316 0 → t < y → y ≤ 100001 → (∀ i : Int32, 0 ≤ i → i < x → g 119 (nt i) ≤ t ∨ y ≤ g 119 (nt i)) → w_X7_nextChance_6 Q (d + 1) t y x S := by
    intro d
    have fin : ∀ y, t < y → y ≤ 100001 → (∀ i : Int32, 0 ≤ i → i < g 316 0 → g 119 (nt i) ≤ t ∨ y ≤ g 119 (nt i)) → ∃ n9, w_X7_nextChance_45 Q n9 t y 0 S := fun y y1 y2 hk => ⟨nt (g 321 0) + 1, L2 _ 0 y (by decide) (by rw [nI_nt0 n3.1]; lia) n3.1 y1 y2 hk (fun s s1 s2 => by lia)⟩
    induction d with
    | zero =>
      intro x y x0 x1 x2 y1 y2 hk
      have e : x = g 316 0 := by rw [← x1]; show x = x + 0; lia
      rw [w_X7_nextChance_6]
      unfold w_size
      rw [c_12_2 hC]
      exact kz ⟨fun a => fin y y1 y2 (e ▸ hk), fun a => by lia⟩
    | succ d ih =>
      intro x y x0 x1 x2 y1 y2 hk
      rw [w_X7_nextChance_6]
      unfold w_size w_get
      rw [c_12_2 hC]
      refine kz ⟨fun a => fin y y1 y2 (fun s s1 s2 => hk s s1 (by lia)), fun a => ⟨⟨by lia, by rw [c_12_2 hC]; lia⟩, kz ?_⟩⟩
      have hx : x < g 316 0 := by lia
      rw [c_42 hC x0 hx]
      refine near_ok fun v _ v2 v3 v4 => kz (ih (x + 1) v (by lia) (by rw [nI1] at x1; lia) (by lia) (v2 y1) (by lia) (fun i i1 i2 => ?_))
      rcases i32_lt1 i2 x0 (by lia) with e | e
      · exact (hk i i1 e).imp_right (fun z => by lia)
      · rw [e]; exact v4
  exact ⟨nt (g 316 0) + 1, L1 _ 0 100001 (by decide) (by rw [nI_nt0 k1]; lia) k1 (by lia) (by lia) (fun s s1 s2 => by lia)⟩
theorem cls_first {n : Nat} {g : Gm} {S : Sg} {f h t : Int32} {Q : Nat → Int32 → Sg → Prop} (hC : cC S g) (hI : Iv g) (hB : Bd n S) (hn : n < 20000) (hQ : cPost n (rFirst g f h t) S Q) : w_X7_first f h t S Q := by
  unfold w_X7_first
  refine filmAt_ok hC (fun r1 => kz ?_) (fun r1 => cThr1 (by decide) hC hI hB hn (cP_of hQ (if_neg (fun q => r1 q.1))))
  refine hallAt_ok hC (fun r2 => kz ?_) (fun r2 => cThr1 (by decide) hC hI hB hn (cP_of hQ (if_neg (fun q => r2 q.2))))
  rw [c_6_0 hC]
  refine needWithin_ok (fun r3 => kz ?_) (fun r3 => cThr1 (by decide) hC hI hB hn (cP_of hQ (by unfold rFirst; rw [if_pos ⟨r1, r2⟩, if_neg r3])))
  have hQ := cP_of hQ (show rFirst g f h t = (0, fst g f h 10081 t, g) by unfold rFirst; rw [if_pos ⟨r1, r2⟩, if_pos r3])
  obtain ⟨t0, t1⟩ := t_rng (i_n hI) r3
  have hI1 := hI.1
  have big : nI 10081 = 10081 := rfl
  have L : ∀ (d : Nat) (s l last : Int32), last = (if t + 10080 ≤ 100000 then t + 10080 else 100000) → 0 ≤ l → l ≤ 10081 → l + nI d = 10081 → t + l ≤ s → s ≤ 100001 → (∀ k : Int32, t ≤ k → k < s → rsn g f h k ≠ 0) → w_X7_first_44 Q (d + 1) f h last s l S := by
    intro d
    have none : ∀ s : Int32, (t + 10080 < s ∨ 100000 < s) → s ≤ 110100 → (∀ k : Int32, t ≤ k → k < s → rsn g f h k ≠ 0) → Q 0 (-1) S := fun s hs hs2 hh => by
      refine cRet hC hB (cP_of hQ ?_)
      rw [fst_no 10081 t t0 (by lia) (by omega) (fun k k1 k2 k3 => hh k k1 (by rw [big] at k2; lia))]
    induction d with
    | zero =>
      intro s l last hl l0 l1 l2 s1 s2 hh
      have e : l = 10081 := by rw [← l2]; show l = l + 0; lia
      rw [w_X7_first_44]
      exact ⟨fun a => none s (by lia) (by lia) hh, fun a => by lia⟩
    | succ d ih =>
      intro s l last hl l0 l1 l2 s1 s2 hh
      rw [w_X7_first_44]
      refine ⟨fun a => none s (by lia) (by lia) hh, fun a => ⟨fun b => none s (by rw [hl] at b; split at b <;> lia) (by lia) hh, fun b => ?_⟩⟩
      have b2 : s ≤ t + 10080 ∧ s ≤ 100000 := by rw [hl] at b; split at b <;> constructor <;> lia
      refine against_ok hC hI1 r1 r2 ⟨by lia, b2.2⟩ (kz ⟨fun c => ?_, fun c => ?_⟩)
      · refine cRet hC hB (cP_of hQ ?_)
        rw [fst_at 10081 t s t0 (by lia) b2.2 (by rw [big]; lia) (by omega) c hh]
      · refine chance_ok hC hI1 (by lia) b2.2 (fun y y1 y2 y3 y4 => kz (ih y (l + 1) last hl (by lia) (by lia) (by rw [nI1] at l2; lia) (by lia) y2 (fun k k1 k2 => ?_)))
        by_cases e : k < s
        · exact hh k k1 e
        · by_cases e2 : k = s
          · rw [e2]; exact c
          · exact gap hI1 r1 (by lia) (by lia) k2 y2 y3 y4 c
  unfold w_J9_min_7cf53
  refine ⟨fun a => kz ⟨10081 + 1, L _ _ _ _ (by rw [if_neg (by lia)]) (by decide) (by decide) rfl (by lia) (by lia) (fun k k1 k2 => by lia)⟩, fun a => kz ⟨10081 + 1, L _ _ _ _ (by rw [if_pos (by lia)]) (by decide) (by decide) rfl (by lia) (by lia) (fun k k1 k2 => by lia)⟩⟩
