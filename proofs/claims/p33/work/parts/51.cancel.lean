/-! cancel: both sides -/
def gC1 (g : Gm) (s : Int32) (i : Nat) : Gm := fun c j => if c = 140 ∧ j < i ∧ g 137 j = s then 0 else if c = 141 ∧ j < i ∧ g 137 j = s then 1 else g c j
def gC2 (g : Gm) (s : Int32) (i : Nat) : Gm := fun c j => if c = 135 ∧ j < i ∧ g 132 j = s then 1 else gC1 g s (nt (g 336 0)) c j
def gC3 (g : Gm) (s : Int32) (m : Nat) : Gm := fun c j => if (c = 126 ∨ c = 127) ∧ nt (48 * s) ≤ j ∧ j < nt (48 * s) + m then -1 else gC2 g s (nt (g 331 0)) c j
section CN
variable {n : Nat} {g : Gm} {S S0 : Sg} {Q : Nat → Int32 → Sg → Prop}
theorem c1_0 {s : Int32} : gC1 g s 0 = g := by
  funext c j
  unfold gC1
  rw [if_neg (by omega), if_neg (by omega)]
theorem c1_yes {s : Int32} {t : Nat} (h : g 137 t = s) : gu (gu (gC1 g s t) 140 t 0) 141 t 1 = gC1 g s (t + 1) := by
  funext c j
  by_cases a : c = 141 ∧ j = t
  · rw [a.1, a.2, gu_at]
    unfold gC1
    rw [if_neg (by omega), if_pos ⟨rfl, by omega, h⟩]
  · rw [gu_ne (by by_cases z : c = 141; exact Or.inr (fun u => a ⟨z, u⟩); exact Or.inl z)]
    by_cases b : c = 140 ∧ j = t
    · rw [b.1, b.2, gu_at]
      unfold gC1
      rw [if_pos ⟨rfl, by omega, h⟩]
    · rw [gu_ne (by by_cases z : c = 140; exact Or.inr (fun u => b ⟨z, u⟩); exact Or.inl z)]
      unfold gC1
      by_cases d : c = 140 ∧ j < t ∧ g 137 j = s
      · rw [if_pos d, if_pos ⟨d.1, by omega, d.2.2⟩]
      · rw [if_neg d, if_neg (show ¬ (c = 140 ∧ j < t + 1 ∧ g 137 j = s) from fun z => d ⟨z.1, by have := z.2.1; have := z.1; omega, z.2.2⟩)]
        by_cases e : c = 141 ∧ j < t ∧ g 137 j = s
        · rw [if_pos e, if_pos ⟨e.1, by omega, e.2.2⟩]
        · rw [if_neg e, if_neg (show ¬ (c = 141 ∧ j < t + 1 ∧ g 137 j = s) from fun z => e ⟨z.1, by have := z.2.1; have := z.1; omega, z.2.2⟩)]
theorem c1_no {s : Int32} {t : Nat} (h : ¬ g 137 t = s) : gC1 g s (t + 1) = gC1 g s t := by
  funext c j
  unfold gC1
  have e : (j < t + 1 ∧ g 137 j = s) ↔ (j < t ∧ g 137 j = s) := by
    constructor
    · rintro ⟨z1, z2⟩
      by_cases q : j = t
      · rw [q] at z2; exact absurd z2 h
      · exact ⟨by omega, z2⟩
    · rintro ⟨z1, z2⟩; exact ⟨by omega, z2⟩
  by_cases d : c = 140 ∧ j < t ∧ g 137 j = s
  · rw [if_pos d, if_pos ⟨d.1, e.mpr d.2⟩]
  · rw [if_neg d, if_neg (fun z => d ⟨z.1, e.mp z.2⟩)]
    by_cases f : c = 141 ∧ j < t ∧ g 137 j = s
    · rw [if_pos f, if_pos ⟨f.1, e.mpr f.2⟩]
    · rw [if_neg f, if_neg (fun z => f ⟨z.1, e.mp z.2⟩)]
theorem c1_at {s : Int32} {t : Nat} : gC1 g s t 140 t = g 140 t ∧ gC1 g s t 141 t = g 141 t := by
  unfold gC1
  exact ⟨by rw [if_neg (by omega), if_neg (by omega)], by rw [if_neg (by omega), if_neg (by omega)]⟩
theorem c2_0 {s : Int32} : gC2 g s 0 = gC1 g s (nt (g 336 0)) := by
  funext c j
  unfold gC2
  rw [if_neg (by omega)]
theorem c2_yes {s : Int32} {t : Nat} (h : g 132 t = s) : gu (gC2 g s t) 135 t 1 = gC2 g s (t + 1) := by
  funext c j
  by_cases a : c = 135 ∧ j = t
  · rw [a.1, a.2, gu_at]
    unfold gC2
    rw [if_pos ⟨rfl, by omega, h⟩]
  · rw [gu_ne (by by_cases z : c = 135; exact Or.inr (fun u => a ⟨z, u⟩); exact Or.inl z)]
    unfold gC2
    by_cases d : c = 135 ∧ j < t ∧ g 132 j = s
    · rw [if_pos d, if_pos ⟨d.1, by omega, d.2.2⟩]
    · rw [if_neg d, if_neg (fun z => d ⟨z.1, by have := z.2.1; omega, z.2.2⟩)]
theorem c2_no {s : Int32} {t : Nat} (h : ¬ g 132 t = s) : gC2 g s (t + 1) = gC2 g s t := by
  funext c j
  unfold gC2
  by_cases d : c = 135 ∧ j < t ∧ g 132 j = s
  · rw [if_pos d, if_pos ⟨d.1, by omega, d.2.2⟩]
  · rw [if_neg d, if_neg (fun z => d ⟨z.1, by
      by_cases q : j = t
      · have := z.2.2; rw [q] at this; exact absurd this h
      · have := z.2.1; omega, z.2.2⟩)]
theorem c2_at {s : Int32} {t : Nat} : gC2 g s t 135 t = g 135 t := by
  unfold gC2 gC1
  rw [if_neg (by omega), if_neg (by omega), if_neg (by omega)]
theorem c3_0 {s : Int32} : gC3 g s 0 = gC2 g s (nt (g 331 0)) := by
  funext c j
  unfold gC3
  rw [if_neg (by omega)]
theorem c3_step {s : Int32} {m : Nat} : gu (gu (gC3 g s m) 126 (nt (48 * s) + m) (-1)) 127 (nt (48 * s) + m) (-1) = gC3 g s (m + 1) := by
  funext c j
  by_cases a : c = 127 ∧ j = nt (48 * s) + m
  · rw [a.1, a.2, gu_at]
    unfold gC3
    rw [if_pos (by omega)]
  · rw [gu_ne (by by_cases z : c = 127; exact Or.inr (fun u => a ⟨z, u⟩); exact Or.inl z)]
    by_cases b : c = 126 ∧ j = nt (48 * s) + m
    · rw [b.1, b.2, gu_at]
      unfold gC3
      rw [if_pos (by omega)]
    · rw [gu_ne (by by_cases z : c = 126; exact Or.inr (fun u => b ⟨z, u⟩); exact Or.inl z)]
      unfold gC3
      by_cases d : (c = 126 ∨ c = 127) ∧ nt (48 * s) ≤ j ∧ j < nt (48 * s) + m
      · rw [if_pos d, if_pos (by omega)]
      · rw [if_neg d, if_neg (by omega)]
theorem c_end {s : Int32} : gu (gu (gC3 g s 48) 128 (nt s) 0) 125 (nt s) 4 = gCancel g s := by
  funext c j
  unfold gCancel
  by_cases a : c = 125 ∧ j = nt s
  · rw [if_neg (by omega), if_neg (by omega), if_neg (by omega), if_neg (by omega), if_neg (by omega), if_pos a, a.1, a.2, gu_at]
  · rw [gu_ne (by by_cases z : c = 125; exact Or.inr (fun u => a ⟨z, u⟩); exact Or.inl z)]
    by_cases b : c = 128 ∧ j = nt s
    · rw [if_neg (by omega), if_neg (by omega), if_neg (by omega), if_neg (by omega), if_pos b, b.1, b.2, gu_at]
    · rw [gu_ne (by by_cases z : c = 128; exact Or.inr (fun u => b ⟨z, u⟩); exact Or.inl z)]
      unfold gC3 gC2 gC1
      by_cases d : (c = 126 ∨ c = 127) ∧ nt (48 * s) ≤ j ∧ j < nt (48 * s) + 48
      · rw [if_pos d, if_neg (by omega), if_neg (by omega), if_neg (by omega), if_pos d]
      · rw [if_neg d, if_neg d, if_neg b, if_neg a]
        by_cases e : c = 135 ∧ j < nt (g 331 0) ∧ g 132 j = s
        · rw [if_pos e, if_neg (by omega), if_neg (by omega), if_pos e]
        · rw [if_neg e, if_neg e]
/-- places behind the last one of the hall are free -/
theorem c3_tail {s : Int32} (hI : Ia g) (h0 : 0 ≤ s) (h1 : s < g 321 0) : gC3 g s (nt (wd g s)) = gC3 g s 48 := by
  have w := wd_le (ia_h hI) (ia_s hI) h0 h1
  obtain ⟨-, -, -, -, -, -, -, -, -, -, -, b12, -⟩ := ia_n hI
  have hw := nt_le (n := 48) (by decide) (show wd g s ≤ nI 48 from w.2)
  funext c j
  unfold gC3
  by_cases d : (c = 126 ∨ c = 127) ∧ nt (48 * s) ≤ j ∧ j < nt (48 * s) + nt (wd g s)
  · rw [if_pos d, if_pos (by omega)]
  · rw [if_neg d]
    by_cases e : (c = 126 ∨ c = 127) ∧ nt (48 * s) ≤ j ∧ j < nt (48 * s) + 48
    · rw [if_pos e]
      have hp : (nI (j - nt (48 * s))).toInt = ((j - nt (48 * s) : Nat) : Int) := nI_toInt (by omega)
      have z0 : (0 : Int32).toInt = 0 := rfl
      have z48 : (48 : Int32).toInt = 48 := rfl
      have p0 : 0 ≤ nI (j - nt (48 * s)) := by rw [z_le]; omega
      have p1 : nI (j - nt (48 * s)) < 48 := by rw [z_lt]; omega
      have hn : nt (nI (j - nt (48 * s))) = j - nt (48 * s) := nt_nI (by omega)
      have p2 : ¬ nI (j - nt (48 * s)) < wd g s := fun z => by
        have := (ntlt p0 (by lia)).mpr z
        omega
      have ej : nt (48 * s + nI (j - nt (48 * s))) = j := by
        rw [nt_add (by lia) p0 (by lia) (by lia), hn]
        omega
      obtain ⟨q1, q2⟩ := ia_pl hI s (nI (j - nt (48 * s))) h0 (by lia) p0 p1
      rw [ej] at q1 q2
      have k6 : g 126 j = -1 := q1.resolve_right (fun z => p2 z.2.2.2.2)
      have k7 : g 127 j = -1 := q2.resolve_right (fun z => p2 z.2.2.2)
      unfold gC2 gC1
      rw [if_neg (by omega), if_neg (by omega), if_neg (by omega)]
      rcases e.1 with rfl | rfl
      · exact k6
      · exact k7
    · rw [if_neg e]
theorem cls_cancel {s : Int32} (hC : cC S g) (hI : Iv g) (hB : Bd n S) (hn : n < 20000) (hQ : cPost n (rCancel g s) S Q) : w_X7_cancel s S Q := by
  have n3 := n336 (i_n hI)
  have n4 := n331 (i_n hI)
  have hI1 := hI.1
  unfold w_X7_cancel
  refine showAt_ok hC (fun r1 => kz ?_) (fun r1 => cThr1 (by decide) hC hI hB hn (cP_of hQ (if_neg r1)))
  refine needPlanned_ok hC r1.1 r1.2 (fun r2 => kz ?_) (fun r2 => cThr1 (by decide) hC hI hB hn (cP_of hQ (by unfold rCancel; rw [if_pos r1, if_neg r2])))
  have hQ := cP_of hQ (show rCancel g s = (0, pf g s, gCancel g s) by unfold rCancel; rw [if_pos r1, if_pos r2])
  obtain ⟨s0, s1⟩ := r1
  have w := wd_le (i_h hI) (i_s hI) s0 s1
  obtain ⟨-, -, -, -, -, -, -, -, -, -, -, b12, -⟩ := i_n hI
  obtain ⟨a1, a2, a3, a4, a5, a6, -⟩ := id hI1
  -- the places, the line, the state
  have L3 : ∀ (d : Nat) (x : Int32) (T : Sg) (Q' : Nat → Int32 → Sg → Prop), 0 ≤ x → x + nI d = wd g s → x ≤ wd g s → cC T (gC3 g s (nt x)) → fr S T → T.2 = S.2 → (∀ i, T.1 12 i = S.1 12 i) → (∀ U, cC U (gC3 g s (nt (wd g s))) → fr S U → U.2 = S.2 → (∀ i, U.1 12 i = S.1 12 i) → Q' 0 0 U) → w_J7_fill_53178_5 Q' (d + 1) s (-1) x (wd g s) T := by
    intro d
    induction d with
    | zero =>
      intro x T Q' x0 x1 x2 t1 t2 t3 t4 k
      have e : x = wd g s := by rw [← x1]; show x = x + 0; lia
      subst e
      rw [w_J7_fill_53178_5]
      exact ⟨fun _ => k T t1 t2 t3 t4, fun z => by lia⟩
    | succ d ih =>
      intro x T Q' x0 x1 x2 t1 t2 t3 t4 k
      rw [w_J7_fill_53178_5]
      refine ⟨fun z => ?_, fun z => ?_⟩
      · have e : x = wd g s := by lia
        subst e
        exact k T t1 t2 t3 t4
      · have y58 : T.1 58 (nt s) = wd g s := c_58 t1 s0 s1
        rw [y58]
        refine ⟨vp_of2 x0 (by lia), ?_⟩
        rintro S1 rfl
        have eS := ntS x0 (show x < 2147483647 by lia)
        have ea : nt (48 * s + x) = nt (48 * s) + nt x := nt_add (by lia) x0 (by lia) (by lia)
        refine ih (x + 1) _ Q' (by lia) (by rw [nI1] at x1; lia) (by lia) ?_ (fr_su t2 (by unfold mc; omega)) t3 (fun i => by rw [su_ne (Or.inl (by omega))]; exact t4 i) k
        rw [eS, ← c3_step]
        refine cC_pl t1 (by exact a1) (by exact a2) (by exact a6) s0 (by exact s1) x0 (by show x < wd g s; lia) (fun c i h => ?_) ?_
        · rw [← ea, gu_ne (by by_cases z9 : c = 127; exact Or.inr (fun u => h ⟨Or.inr z9, u⟩); exact Or.inl z9), gu_ne (by by_cases z9 : c = 126; exact Or.inr (fun u => h ⟨Or.inl z9, u⟩); exact Or.inl z9)]
        · unfold plv
          rw [ea, gu_ne (by simp), gu_at, if_pos rfl, gu_at, if_pos rfl]
  have L2 : ∀ (d : Nat) (x : Int32) (T : Sg), 0 ≤ x → x + nI d = g 331 0 → x ≤ g 331 0 → cC T (gC2 g s (nt x)) → fr S T → T.2 = S.2 → (∀ i, T.1 12 i = S.1 12 i) → w_X7_cancel_89 Q (d + 1) s s (pf g s) x T := by
    intro d
    have fin : ∀ (x : Int32) (T : Sg), x = g 331 0 → cC T (gC2 g s (nt x)) → fr S T → T.2 = S.2 → (∀ i, T.1 12 i = S.1 12 i) → w_X5_clearPlaces s T (fun k6 v5 S4 => (k6 = 0 → (¬ S4.1 55 (nt s) < 0 ∧ (w_X4_clearAway (S4.1 55 (nt s)) S4 (fun k9 v8 S7 => (k9 = 0 → (∀ S10, S10 = su S7 56 (nt s) 4 → Q 0 (pf g s) S10)) ∧ (¬ k9 = 0 → Q k9 0 S7))))) ∧ (¬ k6 = 0 → Q k6 0 S4)) := fun x T e t1 t2 t3 t4 => by
      subst e
      rw [← c3_0] at t1
      have y54 : T.1 54 (nt s) = s := c_54 t1 s0 s1
      have y58 : T.1 58 (nt s) = wd g s := c_58 t1 s0 s1
      have hw : 0 ≤ wd g s := by lia
      unfold w_X5_clearPlaces w_J7_fill_53178
      rw [y54, y58, nI_nt0 hw]
      refine ⟨by lia, ?_⟩
      rintro v rfl
      refine ⟨nt (wd g s) + 1, L3 _ 0 T _ (by decide) (by rw [nI_nt0 hw]; lia) hw t1 t2 t3 t4 (fun U u1 u2 u3 u4 => kz (kz ?_))⟩
      rw [c3_tail hI1 s0 s1] at u1
      have y55 : U.1 55 (nt s) = s := c_55 u1 s0 s1
      rw [y55]
      refine ⟨by lia, ?_⟩
      unfold w_X4_clearAway
      rintro T1 rfl T2 rfl
      refine kz ?_
      rintro T3 rfl
      have k1 : cC (su (su U 82 (nt s) 0) 81 (nt s) 0) (gu (gC3 g s 48) 128 (nt s) 0) := by
        refine cC_clear2 u1 s0 (by exact s1)
      have k2 := cC_su (i := s) (v := 4) (show (56, 125, 321) ∈ colT by decide) (by omega) (by exact n3) k1
      rw [c_end] at k2
      exact hQ _ k2 (fr_su (fr_su (fr_su u2 (by unfold mc; omega)) (by unfold mc; omega)) (by unfold mc; omega)) (bd_up (bd_same hB u3 (fun i => by rw [su_ne (Or.inl (by decide)), su_ne (Or.inl (by decide)), su_ne (Or.inl (by decide))]; exact u4 i)))
    induction d with
    | zero =>
      intro x T x0 x1 x2 t1 t2 t3 t4
      have e : x = g 331 0 := by rw [← x1]; show x = x + 0; lia
      have y12 : T.1 12 4 = g 331 0 := by have := c_12_4 t1; exact this
      rw [w_X7_cancel_89]
      unfold w_size
      rw [y12]
      exact kz ⟨fun _ => fin x T e t1 t2 t3 t4, fun z => by lia⟩
    | succ d ih =>
      intro x T x0 x1 x2 t1 t2 t3 t4
      have y12 : T.1 12 4 = g 331 0 := by have := c_12_4 t1; exact this
      rw [w_X7_cancel_89]
      unfold w_size w_get
      rw [y12]
      refine kz ⟨fun z => fin x T (by lia) t1 t2 t3 t4, fun z => ⟨⟨by lia, by rw [y12]; lia⟩, kz ?_⟩⟩
      have hx : x < g 331 0 := by lia
      obtain ⟨q0, q1, -⟩ := ia_o hI1 x x0 hx
      have y60 : T.1 60 (nt x) = g 132 (nt x) := c_60 t1 x0 hx
      have y50 : T.1 50 (nt (g 132 (nt x))) = g 132 (nt x) := c_50 t1 q0 q1
      have eS := ntS x0 (show x < 2147483647 by lia)
      rw [y60, y50]
      unfold w_X7_cancel_133
      refine ⟨by lia, fun a => ?_, fun a => ?_⟩
      · rintro S14 rfl
        refine ih (x + 1) _ (by lia) (by rw [nI1] at x1; lia) (by lia) ?_ (fr_su t2 (by unfold mc; omega)) t3 (fun i => by rw [su_ne (Or.inl (by decide))]; exact t4 i)
        rw [eS, ← c2_yes a]
        exact cC_su (i := x) (v := 1) (show (63, 135, 331) ∈ colT by decide) (by omega) (by exact n3) t1
      · refine ih (x + 1) T (by lia) (by rw [nI1] at x1; lia) (by lia) ?_ t2 t3 t4
        rw [eS, c2_no a]
        exact t1
  have L1 : ∀ (d : Nat) (x : Int32) (T : Sg), 0 ≤ x → x + nI d = g 336 0 → x ≤ g 336 0 → cC T (gC1 g s (nt x)) → fr S T → T.2 = S.2 → (∀ i, T.1 12 i = S.1 12 i) → w_X7_cancel_15 Q (d + 1) s s (sm (fun t => if g 137 (nt t) = s then g 140 (nt t) else 0) (nt x)) x T := by
    intro d
    have fin : ∀ (x : Int32) (T : Sg), x = g 336 0 → cC T (gC1 g s (nt x)) → fr S T → T.2 = S.2 → (∀ i, T.1 12 i = S.1 12 i) → ∃ n9, w_X7_cancel_89 Q n9 s s (sm (fun t => if g 137 (nt t) = s then g 140 (nt t) else 0) (nt x)) 0 T := fun x T e t1 t2 t3 t4 => by
      subst e
      exact ⟨nt (g 331 0) + 1, L2 _ 0 T (by decide) (by rw [nI_nt0 n4.1]; lia) n4.1 (by rw [show nt 0 = 0 from rfl, c2_0]; exact t1) t2 t3 t4⟩
    induction d with
    | zero =>
      intro x T x0 x1 x2 t1 t2 t3 t4
      have e : x = g 336 0 := by rw [← x1]; show x = x + 0; lia
      have y12 : T.1 12 5 = g 336 0 := by have := c_12_5 t1; exact this
      rw [w_X7_cancel_15]
      unfold w_size
      rw [y12]
      exact kz ⟨fun _ => fin x T e t1 t2 t3 t4, fun z => by lia⟩
    | succ d ih =>
      intro x T x0 x1 x2 t1 t2 t3 t4
      have y12 : T.1 12 5 = g 336 0 := by have := c_12_5 t1; exact this
      rw [w_X7_cancel_15]
      unfold w_size w_get
      rw [y12]
      refine kz ⟨fun z => fin x T (by lia) t1 t2 t3 t4, fun z => ⟨⟨by lia, by rw [y12]; lia⟩, kz ?_⟩⟩
      have hx : x < g 336 0 := by lia
      obtain ⟨q0, q1, -, -, i0, -, -, i1, -⟩ := ia_t hI1 x x0 hx
      have y70 : T.1 70 (nt x) = g 137 (nt x) := c_70 t1 x0 hx
      have y50 : T.1 50 (nt (g 137 (nt x))) = g 137 (nt x) := c_50 t1 q0 q1
      have y74 : T.1 74 (nt x) = g 141 (nt x) := (c_74 t1 x0 hx).trans c1_at.2
      have eS := ntS x0 (show x < 2147483647 by lia)
      have st := sm_succ (f := fun t => if g 137 (nt t) = s then g 140 (nt t) else 0) x0 (show x < 2147483647 by lia)
      rw [y70, y50, y74]
      unfold w_X7_cancel_80
      refine ⟨by lia, fun a => ⟨fun b => ?_, fun b => ?_⟩, fun a => ?_⟩
      · rintro S21 rfl
        have k1 := cC_su (i := x) (v := 1) (show (74, 141, 336) ∈ colT by decide) (by omega) (by exact n3) t1
        have y73 : (su T 74 (nt x) 1).1 73 (nt x) = g 140 (nt x) := by rw [su_ne (Or.inl (by decide))]; exact (c_73 t1 x0 hx).trans c1_at.1
        rw [y73]
        refine payBack_ok k1 (by exact n3) (by exact q0) (by exact q1) x0 (by exact hx) (fun U u1 u2 u3 u4 => kz ?_)
        rintro v25 rfl
        have e9 : sm (fun t => if g 137 (nt t) = s then g 140 (nt t) else 0) (nt x) + g 140 (nt x) = sm (fun t => if g 137 (nt t) = s then g 140 (nt t) else 0) (nt (x + 1)) := by rw [st, if_pos a]
        rw [e9]
        refine ih (x + 1) U (by lia) (by rw [nI1] at x1; lia) (by lia) ?_ (fr_tr (fr_su t2 (by unfold mc; omega)) u2) (u3.trans t3) (fun i => by rw [u4 i, su_ne (Or.inl (by decide))]; exact t4 i)
        rw [eS, ← c1_yes a]
        have y140 : gu (gC1 g s (nt x)) 141 (nt x) 1 140 (nt x) = g 140 (nt x) := by rw [gu_ne (by simp)]; exact c1_at.1
        rw [y140, show g 140 (nt x) - g 140 (nt x) = 0 by lia, gu_comm (by simp)] at u1
        exact u1
      · have b1 := i0.resolve_left b
        have e9 : sm (fun t => if g 137 (nt t) = s then g 140 (nt t) else 0) (nt (x + 1)) = sm (fun t => if g 137 (nt t) = s then g 140 (nt t) else 0) (nt x) := by rw [st, if_pos a, i1 b1]; lia
        have := ih (x + 1) T (by lia) (by rw [nI1] at x1; lia) (by lia) (by
          rw [eS, ← c1_yes a, gu_self (c := 140) (v := 0) (by rw [c1_at.1, i1 b1]), gu_self (c := 141) (v := 1) (by rw [c1_at.2, b1])]
          exact t1) t2 t3 t4
        rw [e9] at this
        exact this
      · have e9 : sm (fun t => if g 137 (nt t) = s then g 140 (nt t) else 0) (nt (x + 1)) = sm (fun t => if g 137 (nt t) = s then g 140 (nt t) else 0) (nt x) := by rw [st, if_neg a]; lia
        have := ih (x + 1) T (by lia) (by rw [nI1] at x1; lia) (by lia) (by rw [eS, c1_no a]; exact t1) t2 t3 t4
        rw [e9] at this
        exact this
  have := L1 (nt (g 336 0)) 0 S (by decide) (by rw [nI_nt0 n3.1]; lia) n3.1 (by rw [show nt 0 = 0 from rfl, c1_0]; exact hC) fr_rf rfl (fun _ => rfl)
  exact ⟨_, this⟩
end CN
