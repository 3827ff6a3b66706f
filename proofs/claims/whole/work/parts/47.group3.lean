/-! group: the reference -/
section G3
variable {n : Nat} {g : Gm} {S S0 : Sg} {Q : Nat → Int32 → Sg → Prop}
def fnd (g : Gm) (s row b : Int32) : Int32 := if b = -1 then -1 else g 104 (nt (g 123 (nt s))) * row + b
theorem side55 {s many row x found least : Int32} {k15 : Int32 → Int32 → Int32 → Int32 → Sg → Prop} {k40 : Int32 → Int32 → Int32 → Int32 → Int32 → Int32 → Int32 → Sg → Prop} (hM : mC S g) (hI : Ia g) (h0 : 0 ≤ s) (h1 : s < g 321 0) (r0 : 0 ≤ row) (r1 : row < g 103 (nt (g 123 (nt s)))) (m0 : 2 ≤ many) (m1 : many ≤ 8) (x0 : 0 ≤ x) (x9 : x ≤ 8) (xw : x + many ≤ g 104 (nt (g 123 (nt s)))) (hf : found = fnd g s row (bst g s many row (nt x)).1) (hl : least = (bst g s many row (nt x)).2)
    (hK : ∀ f' l', f' = fnd g s row (bst g s many row (nt (x + 1))).1 → l' = (bst g s many row (nt (x + 1))).2 → k40 s many (g 104 (nt (g 123 (nt s)))) row f' l' (x + 1) S) :
    ∀ (c : Nat) (k are : Int32), c ≤ 100 → x ≤ k → k + nI c = x + many → k ≤ x + many → flg are (∀ j : Int32, x ≤ j → j < k → fre g s (g 104 (nt (g 123 (nt s))) * row + j)) → w_X8_side_55 k15 k40 Q (c + 1) s many (g 104 (nt (g 123 (nt s)))) row found least x are k S := by
  obtain ⟨-, g1, g2⟩ := i_s1 hI h0 h1
  obtain ⟨a1, a2, a3, a4⟩ := ia_h hI _ g1 g2
  have hr := row_rng hI h0 h1 r0 r1 x0 x9 (show 1 ≤ many by lia) m1 xw
  have w := wd_le (ia_h hI) (ia_s hI) h0 h1
  have hW : 0 ≤ g 104 (nt (g 123 (nt s))) * row ∧ g 104 (nt (g 123 (nt s))) * row ≤ 48 := by
    have := row_rng hI h0 h1 r0 r1 (show (0 : Int32) ≤ 0 by decide) (by decide) (show 1 ≤ many by lia) m1 (show 0 + many ≤ g 104 (nt (g 123 (nt s))) by lia)
    constructor <;> lia
  obtain ⟨st1, st2⟩ := bst_step (g := g) (s := s) (many := many) (row := row) x0 (show x < 2147483647 by lia)
  have hb := bst_rng (g := g) (s := s) (many := many) (row := row) (nt x) (by have := nt_le (n := 8) (by decide) (show x ≤ nI 8 from x9); omega)
  have hfn : found = -1 ↔ (bst g s many row (nt x)).1 = -1 := by
    rw [hf]
    unfold fnd
    rcases hb with hb | hb
    · rw [hb, if_pos rfl]
    · rw [nI_nt0 x0] at hb
      constructor
      · intro z
        split at z
        · assumption
        · lia
      · intro z; lia
  have fin : ∀ are, flg are (allF g s (g 104 (nt (g 123 (nt s))) * row + x) many) → ∀ v, v = offS g s many x → w_X8_side_120 k15 k40 Q s many (g 104 (nt (g 123 (nt s)))) row found least x are v S := fun are ha v hv => by
    have keep : ¬ (allF g s (g 104 (nt (g 123 (nt s))) * row + x) many ∧ ((bst g s many row (nt x)).1 = -1 ∨ offS g s many x < (bst g s many row (nt x)).2)) → k40 s many (g 104 (nt (g 123 (nt s)))) row found least (x + 1) S := fun z => hK _ _ (by rw [st2 z]; exact hf) (by rw [st2 z]; exact hl)
    have take : allF g s (g 104 (nt (g 123 (nt s))) * row + x) many ∧ ((bst g s many row (nt x)).1 = -1 ∨ offS g s many x < (bst g s many row (nt x)).2) → k40 s many (g 104 (nt (g 123 (nt s)))) row ((g 104 (nt (g 123 (nt s))) * row) + x) v (x + 1) S := fun z => hK _ _ (by rw [st1 z]; unfold fnd; rw [if_neg (show ¬ x = -1 by lia)]) (by rw [st1 z]; exact hv)
    unfold w_X8_side_120 w_X8_side_144 w_X8_side_140 w_X8_side_145 w_X8_side_164 w_X8_side_178
    refine ⟨fun z => b0 (b0 (keep (fun u => flg_0 ha z u.1))), fun z => ⟨fun y => b1 (b1 (take ⟨flg_1 ha z, Or.inl (hfn.mp y)⟩)), fun y => ⟨fun u => b0 (b0 (keep (fun t => t.2.elim (fun t => y (hfn.mpr t)) (fun t => by rw [← hv, ← hl] at t; lia)))), fun u => b1 (b1 (take ⟨flg_1 ha z, Or.inr (by rw [← hv, ← hl]; lia)⟩))⟩⟩⟩
  have toAll : ∀ {k : Int32}, k = x + many → ((∀ j : Int32, x ≤ j → j < k → fre g s (g 104 (nt (g 123 (nt s))) * row + j)) ↔ allF g s (g 104 (nt (g 123 (nt s))) * row + x) many) := fun {k} hk => by
    constructor
    · intro h t t0 t1
      have := h (t - g 104 (nt (g 123 (nt s))) * row) (by lia) (by lia)
      rw [show g 104 (nt (g 123 (nt s))) * row + (t - g 104 (nt (g 123 (nt s))) * row) = t by lia] at this
      exact this
    · intro h j j0 j1
      exact h _ (by lia) (by lia)
  have done : ∀ (k are : Int32), k = x + many → flg are (∀ j : Int32, x ≤ j → j < k → fre g s (g 104 (nt (g 123 (nt s))) * row + j)) → (∀ v1, v1 = ((2 * x) + many) - g 104 (nt (g 123 (nt s))) → ((0 ≤ v1 → w_X8_side_120 k15 k40 Q s many (g 104 (nt (g 123 (nt s)))) row found least x are v1 S) ∧ (¬ 0 ≤ v1 → w_X8_side_120 k15 k40 Q s many (g 104 (nt (g 123 (nt s)))) row found least x are (-v1) S))) := fun k are hk ha => by
    rw [toAll hk] at ha
    rintro v1 rfl
    exact ⟨fun z => fin are ha _ (by unfold offS; rw [if_pos z]), fun z => fin are ha _ (by unfold offS; rw [if_neg z])⟩
  intro c
  induction c with
  | zero =>
    intro k are hc k0 k1 k2 ha
    have e : k = x + many := by rw [← k1]; show k = k + 0; lia
    rw [w_X8_side_55]
    exact ⟨fun _ => done k are e ha, fun z => by lia⟩
  | succ c ih =>
    intro k are hc k0 k1 k2 ha
    rw [w_X8_side_55]
    refine ⟨fun z => done k are (by lia) ha, fun z => ?_⟩
    rw [nI1] at k1
    have nx : ∀ are', flg are' ((∀ j : Int32, x ≤ j → j < k → fre g s (g 104 (nt (g 123 (nt s))) * row + j)) ∧ fre g s (g 104 (nt (g 123 (nt s))) * row + k)) → w_X8_side_55 k15 k40 Q (c + 1) s many (g 104 (nt (g 123 (nt s)))) row found least x are' (k + 1) S := fun are' h => by
      refine ih (k + 1) are' (by omega) (by lia) (by lia) (by lia) ?_
      have e : ((∀ j : Int32, x ≤ j → j < k → fre g s (g 104 (nt (g 123 (nt s))) * row + j)) ∧ fre g s (g 104 (nt (g 123 (nt s))) * row + k)) ↔ (∀ j : Int32, x ≤ j → j < k + 1 → fre g s (g 104 (nt (g 123 (nt s))) * row + j)) := by
        constructor
        · rintro ⟨h5, h6⟩ j j0 j1
          rcases i32_lt1 j1 (by lia) (by lia) with e | e
          · exact h5 j j0 e
          · rw [e]; exact h6
        · intro h5
          exact ⟨fun j j0 j1 => h5 j j0 (by lia), h5 k k0 (by lia)⟩
      rw [← e]; exact h
    unfold w_X8_side_88 w_X8_side_89
    refine ⟨fun y => nx 0 (Or.inr ⟨rfl, fun u => flg_0 ha y u.1⟩), fun y => isFree_ok hM hI ⟨h0, h1⟩ (by lia) (by lia) (fun u => kb1 (nx 1 (Or.inl ⟨rfl, flg_1 ha y, u⟩))) (fun u => kb0 (nx 0 (Or.inr ⟨rfl, fun t => u t.2⟩)))⟩
theorem side40 {s many row : Int32} {k15 : Int32 → Int32 → Int32 → Int32 → Sg → Prop} (hM : mC S g) (hI : Ia g) (h0 : 0 ≤ s) (h1 : s < g 321 0) (r0 : 0 ≤ row) (r1 : row < g 103 (nt (g 123 (nt s)))) (m0 : 2 ≤ many) (m1 : many ≤ 8)
    (q1 : (bst g s many row (nps g s many)).1 = -1 → k15 s many (g 104 (nt (g 123 (nt s)))) (row + 1) S) (q2 : ¬ (bst g s many row (nps g s many)).1 = -1 → Q 0 (g 104 (nt (g 123 (nt s))) * row + (bst g s many row (nps g s many)).1) S) :
    ∀ (d : Nat) (x found least : Int32), 0 ≤ x → x + nI d = 9 → x ≤ 9 → (x = 0 ∨ x + many ≤ g 104 (nt (g 123 (nt s))) + 1) → found = fnd g s row (bst g s many row (nt x)).1 → least = (bst g s many row (nt x)).2 → w_X8_side_40 k15 Q (d + 1) s many (g 104 (nt (g 123 (nt s)))) row found least x S := by
  obtain ⟨-, g1, g2⟩ := i_s1 hI h0 h1
  obtain ⟨a1, a2, a3, a4⟩ := ia_h hI _ g1 g2
  have hW : 0 ≤ g 104 (nt (g 123 (nt s))) * row ∧ g 104 (nt (g 123 (nt s))) * row ≤ 48 := by
    have a := pla_rng hI (show isP g s row 0 from ⟨⟨h0, h1⟩, r0, r1, by decide, by lia⟩)
    have w := wd_le (ia_h hI) (ia_s hI) h0 h1
    unfold pla at a
    constructor <;> lia
  have stop : ∀ x found : Int32, 0 ≤ x → x ≤ 9 → (x = 0 ∨ x + many ≤ g 104 (nt (g 123 (nt s))) + 1) → g 104 (nt (g 123 (nt s))) < x + many → found = fnd g s row (bst g s many row (nt x)).1 → ((found = (-1) → k15 s many (g 104 (nt (g 123 (nt s)))) (row + 1) S) ∧ (¬ found = (-1) → Q 0 found S)) := fun x found x0 x9 xc xw hf => by
    have e : nps g s many = nt x := by
      unfold nps
      by_cases z : x = 0
      · have : g 104 (nt (g 123 (nt s))) + 1 - many ≤ 0 := by lia
        rw [z]
        exact Nat.le_antisymm (nt_le (n := 0) (by decide) this) (Nat.zero_le _)
      · rw [show g 104 (nt (g 123 (nt s))) + 1 - many = x by lia]
    rw [e] at q1 q2
    have hb := bst_rng (g := g) (s := s) (many := many) (row := row) (nt x) (by have := nt_le (n := 9) (by decide) (show x ≤ nI 9 from x9); omega)
    rw [nI_nt0 x0] at hb
    unfold fnd at hf
    by_cases z : (bst g s many row (nt x)).1 = -1
    · rw [if_pos z] at hf
      exact ⟨fun _ => q1 z, fun y => absurd hf y⟩
    · rw [if_neg z] at hf
      rcases hb with hb | hb
      · exact absurd hb z
      · exact ⟨fun y => by lia, fun _ => by rw [hf]; exact q2 z⟩
  intro d
  induction d with
  | zero =>
    intro x found least x0 x1 x2 xc hf hl
    have e : x = 9 := by rw [← x1]; show x = x + 0; lia
    rw [w_X8_side_40]
    exact ⟨fun z => stop x found x0 x2 xc z hf, fun z => by lia⟩
  | succ d ih =>
    intro x found least x0 x1 x2 xc hf hl
    rw [w_X8_side_40]
    refine ⟨fun z => stop x found x0 x2 xc z hf, fun z => ?_⟩
    have hm : 0 ≤ many := by lia
    refine ⟨nt many + 1, side55 hM hI h0 h1 r0 r1 m0 m1 x0 (by lia) (by lia) hf hl (fun f' l' e1 e2 => ih (x + 1) f' l' (by lia) (by rw [nI1] at x1; lia) (by lia) (Or.inr (by lia)) e1 e2) (nt many) x 1 (Nat.le_trans (nt_le (n := 8) (by decide) m1) (by decide)) (by lia) (by rw [nI_nt0 hm]) (by lia) (Or.inl ⟨rfl, fun j j0 j1 => by lia⟩)⟩
theorem sideM_ok {s many : Int32} (hM : mC S g) (hI : Ia g) (h0 : 0 ≤ s) (h1 : s < g 321 0) (m0 : 2 ≤ many) (m1 : many ≤ 8) (q : Q 0 (sid g s many) S) : w_X8_side s many S Q := by
  obtain ⟨-, g1, g2⟩ := i_s1 hI h0 h1
  obtain ⟨a1, a2, a3, a4⟩ := ia_h hI _ g1 g2
  have vs := v30 (ia_n hI) h0 h1
  have vh := v4 (ia_n hI) ⟨g1, g2⟩
  have L : ∀ (d : Nat) (row : Int32), d ≤ 100 → 0 ≤ row → row + nI d = g 103 (nt (g 123 (nt s))) → row ≤ g 103 (nt (g 123 (nt s))) → sid g s many = sde g s many d row → w_X8_side_15 Q (d + 1) s many (g 104 (nt (g 123 (nt s)))) row S := by
    intro d
    induction d with
    | zero =>
      intro row hd x0 x1 x2 e9
      have e : row = g 103 (nt (g 123 (nt s))) := by rw [← x1]; show row = row + 0; lia
      rw [w_X8_side_15, hM _ _ (mcA : mc 123), hM _ _ (mcA : mc 103)]
      exact ⟨vs, vh, fun _ => by rw [e9] at q; exact q, fun z => by lia⟩
    | succ d ih =>
      intro row hd x0 x1 x2 e9
      rw [w_X8_side_15, hM _ _ (mcA : mc 123), hM _ _ (mcA : mc 103)]
      have e5 : (nI d).toInt = d := nI_toInt (by omega)
      have e6 : 0 ≤ nI d := by rw [z_le, e5]; exact Int.natCast_nonneg d
      have e7 : nI d ≤ 1000 := by rw [z_le, e5]; show (d : Int) ≤ 1000; omega
      rw [nI1] at x1
      refine ⟨vs, vh, fun z => by lia, fun z => ⟨9 + 1, side40 hM hI h0 h1 x0 (by lia) m0 m1 (fun c => ih (row + 1) (by omega) (by lia) (by lia) (by lia) ?_) (fun c => ?_) 9 0 (-1) 0 (by decide) rfl (by decide) (Or.inl rfl) rfl rfl⟩⟩
      · rw [e9]
        show (if _ then _ else _) = _
        rw [if_pos c]
      · have e8 : sid g s many = g 104 (nt (g 123 (nt s))) * row + (bst g s many row (nps g s many)).1 := by
          rw [e9]
          show (if _ then _ else _) = _
          rw [if_neg c]
        rw [← e8]
        exact q
  unfold w_X8_side
  rw [hM _ _ (mcA : mc 123), hM _ _ (mcA : mc 104)]
  refine ⟨vs, vh, ?_⟩
  rintro v rfl
  have hR : 0 ≤ g 103 (nt (g 123 (nt s))) := by lia
  exact ⟨nt (g 103 (nt (g 123 (nt s)))) + 1, L _ 0 (Nat.le_trans (nt_le (n := 6) (by decide) a2) (by decide)) (by decide) (by rw [nI_nt0 hR]; lia) hR rfl⟩
theorem mod_group {s many age : Int32} (hM : mC S g) (hI : Iv g) (hQ : mPost [3, 1, 2] (rGroup g s many age) S Q) : w_X8_group s many age S Q := by
  have hn := i_n hI
  have n3 := n336 hn
  unfold w_X8_group w_X8_group_21 w_X8_group_22 w_X8_group_81 w_X8_group_82 w_X8_group_116
  have no3 : ¬ isX g 321 s → mPost [3, 1, 2] (3, 0, g) S Q := fun r => mP_of hQ (if_neg r)
  have no1 : isX g 321 s → ¬ (inr many 2 8 ∧ inr age 0 120) → mPost [3, 1, 2] (1, 0, g) S Q := fun r z => mP_of hQ (by unfold rGroup; rw [if_pos r, if_neg z])
  refine isIn_ok (fun r2 => kb1 ?_) (fun r2 => kb0 (isShow_ok hM hn (fun r1 => kb1 (b0 (isShow_ok hM hn (fun _ => kb1 (b0 (mFail (no1 r1 (fun z => r2 z.1)) hM (by decide) rfl (by decide)))) (fun r => absurd r1 r)))) (fun r1 => kb0 (isShow_ok hM hn (fun r => absurd r r1) (fun _ => kb0 (mFail (no3 r1) hM (by decide) rfl (by decide)))))))
  refine isAge_ok (fun r3 => kb1 ?_) (fun r3 => kb0 (isShow_ok hM hn (fun r1 => kb1 (b0 (isShow_ok hM hn (fun _ => kb1 (b0 (mFail (no1 r1 (fun z => r3 z.2)) hM (by decide) rfl (by decide)))) (fun r => absurd r1 r)))) (fun r1 => kb0 (isShow_ok hM hn (fun r => absurd r r1) (fun _ => kb0 (mFail (no3 r1) hM (by decide) rfl (by decide)))))))
  refine isShow_ok hM hn (fun r1 => kb1 (b1 ⟨v30 hn r1.1 r1.2, ?_⟩)) (fun r1 => kb0 (isShow_ok hM hn (fun r => absurd r r1) (fun _ => kb0 (mFail (no3 r1) hM (by decide) rfl (by decide)))))
  have bad : ¬ (g 125 (nt s) = 0 ∧ sid g s many ≠ -1 ∧ see g s age ∧ g 336 0 + many ≤ 400) → mPost [3, 1, 2] (2, 0, g) S Q := fun z => mP_of hQ (by unfold rGroup; rw [if_pos r1, if_pos ⟨r2, r3⟩, if_neg z])
  rw [hM _ _ (mcA : mc 125)]
  refine ⟨fun r4 => sideM_ok hM hI.1 r1.1 r1.2 r2.1 r2.2 (kz ⟨fun r5 => isShow_ok hM hn (fun _ => kb1 (b1 (b0 (mFail (bad (fun z => z.2.1 r5)) hM (by decide) rfl (by decide))))) (fun r => absurd r1 r), fun r5 => canSee_ok hM hI.1 r1.1 r1.2 (fun r6 => kb1 ?_) (fun r6 => kb0 (isShow_ok hM hn (fun _ => kb1 (b1 (b0 (mFail (bad (fun z => r6 z.2.2.1)) hM (by decide) rfl (by decide))))) (fun r => absurd r1 r)))⟩), fun r4 => isShow_ok hM hn (fun _ => kb1 (b1 (b0 (mFail (bad (fun z => r4 z.1)) hM (by decide) rfl (by decide))))) (fun r => absurd r1 r)⟩
  rw [hM _ _ m336]
  refine ⟨fun r7 => isShow_ok hM hn (fun _ => kb1 (b1 (b0 (mFail (bad (fun z => by have := z.2.2.2; lia)) hM (by decide) rfl (by decide))))) (fun r => absurd r1 r), fun r7 => isShow_ok hM hn (fun _ => kb1 (b1 (b1 (mGo ?_)))) (fun r => absurd r1 r)⟩
  have hQ := mP_of hQ (show rGroup g s many age = (0, g 336 0, gGroup s age (nt many) (sid g s many) g) by unfold rGroup; rw [if_pos r1, if_pos ⟨r2, r3⟩, if_pos ⟨r4, r5, r6, by lia⟩])
  obtain ⟨p0, p1, p2, p3⟩ := sid_ok hI.1 r1.1 r1.2 r2.1 r2.2 r5
  have w := wd_le (i_h hI) (i_s hI) r1.1 r1.2
  have h0 := mS0 hM
  obtain ⟨m0, m1⟩ := r2
  refine sideM_ok h0.1 hI.1 r1.1 r1.2 m0 m1 (kz ?_)
  intro v10 e10
  have e10 : v10 = g 336 0 := e10.trans (h0.1 _ _ m336)
  subst e10
  have L : ∀ (d : Nat) (x : Int32) (T : Sg) (g' : Gm), d ≤ 100 → 0 ≤ x → x + nI d = many → x ≤ many → mS S T g' → Ia g' → g' 321 0 = g 321 0 → wd g' s = wd g s → g' 336 0 = g 336 0 + x → (∀ k : Int32, sid g s many + x ≤ k → k < sid g s many + many → fre g' s k) → gGroup s age d (sid g s many + x) g' = gGroup s age (nt many) (sid g s many) g → w_X8_group_142 Q (d + 1) s many age (sid g s many) (g 336 0) (sid g s many + x) T := by
    intro d
    induction d with
    | zero =>
      intro x T g' hd x0 x1 x2 t1 t2 t5 t6 t7 t8 t9
      have e : x = many := by rw [← x1]; show x = x + 0; lia
      rw [w_X8_group_142]
      refine ⟨fun _ => mEnd hQ ?_ rfl, fun z => by lia⟩
      rw [← t9]
      exact t1
    | succ d ih =>
      intro x T g' hd x0 x1 x2 t1 t2 t5 t6 t7 t8 t9
      have e5 : (nI d).toInt = d := nI_toInt (by omega)
      have e6 : 0 ≤ nI d := by rw [z_le, e5]; exact Int.natCast_nonneg d
      have e7 : nI d ≤ 1000 := by rw [z_le, e5]; show (d : Int) ≤ 1000; omega
      rw [nI1] at x1
      rw [w_X8_group_142]
      refine ⟨fun z => by lia, fun z => ?_⟩
      have f := t8 (sid g s many + x) (by lia) (by lia)
      refine sellsM_ok t1 t2 r1.1 (by rw [t5]; exact r1.2) (by lia) (by rw [t6]; lia) (by rw [t7]; lia) (fun U u1 => kz ?_)
      rw [show sid g s many + x + 1 = sid g s many + (x + 1) by lia]
      refine ih (x + 1) U (gSells g' s (sid g s many + x) age) (by omega) (by lia) (by lia) (by lia) u1 (Ia_sells t2 r1.1 (by rw [t5]; exact r1.2) (by lia) (by rw [t6]; lia) f (by rw [t7]; lia)) t5 t6 ?_ (fun k k0 k1 => ?_) ?_
      · show g' 336 0 + 1 = _
        rw [t7]; lia
      · exact fre_sells t2 r1.1 (by rw [t5]; exact r1.2) (by lia) (by lia) (by lia) (by lia) (by lia) (t8 k (by lia) k1)
      · rw [show sid g s many + (x + 1) = sid g s many + x + 1 by lia]
        exact t9
  have hm : 0 ≤ many := by lia
  have := L (nt many) 0 _ g (Nat.le_trans (nt_le (n := 8) (by decide) m1) (by decide)) (by decide) (by rw [nI_nt0 hm]; lia) hm h0 hI.1 rfl rfl (by lia) (fun k k0 k1 => p3 k (by lia) k1) (by rw [show sid g s many + 0 = sid g s many by lia])
  rw [show sid g s many + 0 = sid g s many by lia] at this
  exact ⟨nt many + 1, this⟩
end G3
