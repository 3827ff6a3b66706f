/-! minutes: the class -/
section P3
variable {n : Nat} {g : Gm} {S : Sg} {t : Int32} {Q : Nat → Int32 → Sg → Prop}
theorem nextChange_ok (hC : cC S g) (hI : Iv g) (ht : g 300 0 < t) (q : ∀ y : Int32, g 300 0 < y → y ≤ t → Qt g y → Q 0 y S) : w_X7_nextChange t S Q := by
  have hI1 := hI.1
  have n3 := n321 (i_n hI)
  have n4 := n331 (i_n hI)
  have L2 : ∀ (d : Nat) (x y : Int32), 0 ≤ x → x + nI d = g 321 0 → x ≤ g 321 0 → g 300 0 < y → y ≤ t → (∀ k : Int32, 0 ≤ k → k < g 331 0 → g 135 (nt k) = 0 → y ≤ g 134 (nt k)) → (∀ s : Int32, 0 ≤ s → s < x → (g 125 (nt s) = 0 → y ≤ g 124 (nt s)) ∧ (g 125 (nt s) = 1 → y ≤ en g s)) → w_X7_nextChange_58 Q (d + 1) y x S := by
    intro d
    induction d with
    | zero =>
      intro x y x0 x1 x2 y1 y2 hk hs
      have e : x = g 321 0 := by rw [← x1]; show x = x + 0; lia
      rw [w_X7_nextChange_58]
      unfold w_size
      rw [c_12_3 hC]
      exact kz ⟨fun a => q y y1 y2 ⟨hk, e ▸ hs⟩, fun a => by lia⟩
    | succ d ih =>
      intro x y x0 x1 x2 y1 y2 hk hs
      rw [w_X7_nextChange_58]
      unfold w_size w_get
      rw [c_12_3 hC]
      refine kz ⟨fun a => q y y1 y2 ⟨hk, fun s s1 s2 => hs s s1 (by lia)⟩, fun a => ⟨⟨by lia, by rw [c_12_3 hC]; lia⟩, kz ?_⟩⟩
      have hx : x < g 321 0 := by lia
      have go : ∀ v : Int32, g 300 0 < v → v ≤ y → ((g 125 (nt x) = 0 → v ≤ g 124 (nt x)) ∧ (g 125 (nt x) = 1 → v ≤ en g x)) → w_X7_nextChange_58 Q (d + 1) v (x + 1) S := fun v v1 v2 v3 => by
        refine ih (x + 1) v (by lia) (by rw [nI1] at x1; lia) (by lia) v1 (by lia) (fun k k0 k1 ko => by have := hk k k0 k1 ko; lia) (fun s s0 s1 => ?_)
        rcases i32_lt1 s1 x0 (by lia) with z | z
        · exact ⟨fun u => by have := (hs s s0 z).1 u; lia, fun u => by have := (hs s s0 z).2 u; lia⟩
        · rw [z]; exact v3
      obtain ⟨i1, i2⟩ := hI.2.2 x x0 hx
      refine toCome_ok hC x0 hx (fun o => kz (b1 ?_)) (fun o => kz (b0 (go y y1 (by lia) ⟨fun u => absurd (Or.inl u) o, fun u => absurd (Or.inr u) o⟩)))
      rw [c_56 hC x0 hx, c_53 hC x0 hx, c_6_0 hC]
      refine ⟨fun u => ?_, fun u => ?_⟩
      · unfold w_X7_nextChange_116
        refine near_ok fun v _ v2 v3 v4 => kz (go v (v2 y1) v3 ⟨fun _ => ?_, fun w => by rw [u] at w; exact absurd w (by decide)⟩)
        have := i1 u
        exact v4.resolve_left (fun w => by lia)
      · have u1 : g 125 (nt x) = 1 := o.resolve_left u
        refine end_ok hC hI1 x0 hx (kz ?_)
        unfold w_X7_nextChange_116
        refine near_ok fun v _ v2 v3 v4 => kz (go v (v2 y1) v3 ⟨fun w => absurd w u, fun _ => ?_⟩)
        have := (i2 u1).2
        exact v4.resolve_left (fun w => by lia)
  have L1 : ∀ (d : Nat) (x y : Int32), 0 ≤ x → x + nI d = g 331 0 → x ≤ g 331 0 → g 300 0 < y → y ≤ t → (∀ k : Int32, 0 ≤ k → k < x → g 135 (nt k) = 0 → y ≤ g 134 (nt k)) → w_X7_nextChange_4 Q (d + 1) y x S := by
    intro d
    have fin : ∀ y, g 300 0 < y → y ≤ t → (∀ k : Int32, 0 ≤ k → k < g 331 0 → g 135 (nt k) = 0 → y ≤ g 134 (nt k)) → ∃ n9, w_X7_nextChange_58 Q n9 y 0 S := fun y y1 y2 hk => ⟨nt (g 321 0) + 1, L2 _ 0 y (by decide) (by rw [nI_nt0 n3.1]; lia) n3.1 y1 y2 hk (fun s s1 s2 => by lia)⟩
    induction d with
    | zero =>
      intro x y x0 x1 x2 y1 y2 hk
      have e : x = g 331 0 := by rw [← x1]; show x = x + 0; lia
      rw [w_X7_nextChange_4]
      unfold w_size
      rw [c_12_4 hC]
      exact kz ⟨fun a => fin y y1 y2 (e ▸ hk), fun a => by lia⟩
    | succ d ih =>
      intro x y x0 x1 x2 y1 y2 hk
      rw [w_X7_nextChange_4]
      unfold w_size w_get
      rw [c_12_4 hC]
      refine kz ⟨fun a => fin y y1 y2 (fun s s1 s2 => hk s s1 (by lia)), fun a => ⟨⟨by lia, by rw [c_12_4 hC]; lia⟩, kz ?_⟩⟩
      have hx : x < g 331 0 := by lia
      rw [c_63 hC x0 hx, c_62 hC x0 hx, c_6_0 hC]
      have go : ∀ v : Int32, g 300 0 < v → v ≤ y → (g 135 (nt x) = 0 → v ≤ g 134 (nt x)) → w_X7_nextChange_4 Q (d + 1) v (x + 1) S := fun v v1 v2 v3 => by
        refine ih (x + 1) v (by lia) (by rw [nI1] at x1; lia) (by lia) v1 (by lia) (fun s s0 s1 u => ?_)
        rcases i32_lt1 s1 x0 (by lia) with z | z
        · have := hk s s0 z u; lia
        · rw [z] at u ⊢; exact v3 u
      refine ⟨fun u => near_ok fun v _ v2 v3 v4 => kz (go v (v2 y1) v3 (fun _ => ?_)), fun u => go y y1 (by lia) (fun w => absurd w u)⟩
      have := hI.2.1 x x0 hx u
      exact v4.resolve_left (fun w => by lia)
  exact ⟨nt (g 331 0) + 1, L1 _ 0 t (by decide) (by rw [nI_nt0 n4.1]; lia) n4.1 ht (by lia) (fun s s1 s2 => by lia)⟩
theorem endHolds_ok (hn : n ≤ 20000) (hC : cC S g) (hI : Ia g) (h1 : HO1 g) (hB : Bd n S) (q : ∀ T, cC T (eH (nt (g 331 0)) 0 g) → fr S T → Bd n T → Q 0 0 T) : w_X7_endHolds S Q := by
  have n4 := n331 (ia_n hI)
  have L : ∀ (d : Nat) (x : Int32) (g : Gm) (T : Sg), d ≤ 1000 → Ia g → HO1 g → 0 ≤ x → x + nI d = g 331 0 → x ≤ g 331 0 → cC T g → fr S T → Bd n T → (∀ U, cC U (eH d x g) → fr S U → Bd n U → Q 0 0 U) → w_X7_endHolds_2 Q (d + 1) x T := by
    intro d
    induction d with
    | zero =>
      intro x g T hd hI h1 x0 x1 x2 t1 t2 t3 q
      have e : x = g 331 0 := by rw [← x1]; show x = x + 0; lia
      rw [w_X7_endHolds_2]
      unfold w_size
      rw [c_12_4 t1]
      exact kz ⟨fun a => q T t1 t2 t3, fun a => by lia⟩
    | succ d ih =>
      intro x g T hd hI h1 x0 x1 x2 t1 t2 t3 q
      have n4 := n331 (ia_n hI)
      have e5 : (nI d).toInt = d := nI_toInt (by omega)
      have e6 : 0 ≤ nI d := by rw [z_le, e5]; exact Int.natCast_nonneg d
      have e7 : nI d ≤ 1000 := by rw [z_le, e5]; show (d : Int) ≤ 1000; omega
      rw [nI1] at x1
      have hx : x < g 331 0 := by lia
      have q : ∀ U, cC U (eH d (x + 1) (if g 135 (nt x) = 0 ∧ ¬ g 300 0 < g 134 (nt x) then (gEnds g x).2 else g)) → fr S U → Bd n U → Q 0 0 U := q
      rw [w_X7_endHolds_2]
      unfold w_size w_get w_X7_endHolds_49
      rw [c_12_4 t1]
      refine kz ⟨fun a => by lia, fun a => ⟨⟨by lia, by rw [c_12_4 t1]; lia⟩, kz ?_⟩⟩
      rw [c_63 t1 x0 hx, c_62 t1 x0 hx, c_6_0 t1]
      refine ⟨fun u => ⟨fun w => ?_, fun w => ?_⟩, fun u => ?_⟩
      · rw [if_pos ⟨u, by lia⟩] at q
        refine endUnbought_ok t1 hI t3 hn x0 hx u (fun U u1 u2 u3 => kz ?_)
        exact ih (x + 1) _ U (by omega) (Ia_ends hI x0 hx u) (HO1_ends hI x0 hx h1) (by lia) (by rw [ends_o (by omega)]; lia) (by rw [ends_o (by omega)]; lia) u1 (fr_tr t2 u2) u3 q
      · rw [if_neg (show ¬ (g 135 (nt x) = 0 ∧ ¬ g 300 0 < g 134 (nt x)) from fun z => by have := h1 x x0 hx u; have := z.2; lia)] at q
        exact ih (x + 1) g T (by omega) hI h1 (by lia) (by lia) (by lia) t1 t2 t3 q
      · rw [if_neg (show ¬ (g 135 (nt x) = 0 ∧ ¬ g 300 0 < g 134 (nt x)) from fun z => u z.1)] at q
        exact ih (x + 1) g T (by omega) hI h1 (by lia) (by lia) (by lia) t1 t2 t3 q
  have d4 := nt_le (n := 400) (by decide) (show g 331 0 ≤ nI 400 from n4.2)
  exact ⟨_, L (nt (g 331 0)) 0 g S (by omega) hI h1 (by decide) (by rw [nI_nt0 n4.1]; lia) n4.1 hC fr_rf hB q⟩
theorem endShows_ok (hC : cC S g) (hI : Ia g) (hs : SA g) (hB : Bd n S) (q : ∀ T, cC T (eS (nt (g 321 0)) 0 g) → fr S T → Bd n T → Q 0 0 T) : w_X7_endShows S Q := by
  have n4 := n321 (ia_n hI)
  have L : ∀ (d : Nat) (x : Int32) (g : Gm) (T : Sg), d ≤ 1000 → Ia g → SA g → 0 ≤ x → x + nI d = g 321 0 → x ≤ g 321 0 → cC T g → fr S T → Bd n T → (∀ U, cC U (eS d x g) → fr S U → Bd n U → Q 0 0 U) → w_X7_endShows_2 Q (d + 1) x T := by
    intro d
    induction d with
    | zero =>
      intro x g T hd hI h1 x0 x1 x2 t1 t2 t3 q
      have e : x = g 321 0 := by rw [← x1]; show x = x + 0; lia
      rw [w_X7_endShows_2]
      unfold w_size
      rw [c_12_3 t1]
      exact kz ⟨fun a => q T t1 t2 t3, fun a => by lia⟩
    | succ d ih =>
      intro x g T hd hI h1 x0 x1 x2 t1 t2 t3 q
      have n4 := n321 (ia_n hI)
      have n6 := n336 (ia_n hI)
      have e5 : (nI d).toInt = d := nI_toInt (by omega)
      have e6 : 0 ≤ nI d := by rw [z_le, e5]; exact Int.natCast_nonneg d
      have e7 : nI d ≤ 1000 := by rw [z_le, e5]; show (d : Int) ≤ 1000; omega
      rw [nI1] at x1
      have hx : x < g 321 0 := by lia
      have q : ∀ U, cC U (eS d (x + 1) (if g 125 (nt x) = 1 ∧ ¬ g 300 0 < en g x then gOver g x else g)) → fr S U → Bd n U → Q 0 0 U := q
      obtain ⟨⟨f1, f2⟩, g1, g2⟩ := i_s1 hI x0 hx
      rw [w_X7_endShows_2]
      unfold w_size w_get w_X7_endShows_68
      rw [c_12_3 t1]
      refine kz ⟨fun a => by lia, fun a => ⟨⟨by lia, by rw [c_12_3 t1]; lia⟩, kz ?_⟩⟩
      rw [c_56 t1 x0 hx]
      refine ⟨fun u => end_ok t1 hI x0 hx (kz ?_), fun u => ?_⟩
      · rw [c_6_0 t1, c_52 t1 x0 hx, c_51 t1 x0 hx, c_23 t1 g1 g2, c_31 t1 f1 f2]
        refine ⟨fun w => ⟨by lia, by lia, ?_⟩, fun w => ?_⟩
        · rintro S10 rfl S11 rfl
          rw [if_pos ⟨u, by lia⟩] at q
          have eo : ∀ s, en (gOver g x) s = en g s := fun s => by unfold en; rw [over_o (by omega), over_o (by omega), over_o (by omega)]
          have k1 := cC_su (i := g 123 (nt x)) (v := g 105 (nt (g 123 (nt x))) + g 108 (nt (g 122 (nt x)))) (show (23, 105, 302) ∈ colT by decide) (by omega) (by exact n6) t1
          have k2 := cC_su (i := x) (v := 2) (show (56, 125, 321) ∈ colT by decide) (by omega) (by exact n6) k1
          rw [gu_comm (by simp)] at k2
          refine ih (x + 1) (gOver g x) _ (by omega) (Ia_over hI x0 hx u) (fun s s0 s1 => ?_) (by lia) (by rw [over_o (by omega)]; lia) (by rw [over_o (by omega)]; lia) k2 (fr_su (fr_su t2 (by unfold mc; omega)) (by unfold mc; omega)) (bd_same t3 rfl (fun i => by rw [su_ne (Or.inl (by decide)), su_ne (Or.inl (by decide))])) q
          rw [over_o (by omega)] at s1
          rw [over_125, over_o (by omega), over_o (by omega), eo]
          split
          · exact ⟨fun z => absurd z (by decide), fun z => absurd z (by decide)⟩
          · exact h1 s s0 s1
        · rw [if_neg (show ¬ (g 125 (nt x) = 1 ∧ ¬ g 300 0 < en g x) from fun z => by have := ((h1 x x0 hx).2 u).2; have := z.2; lia)] at q
          exact ih (x + 1) g T (by omega) hI h1 (by lia) (by lia) (by lia) t1 t2 t3 q
      · rw [if_neg (show ¬ (g 125 (nt x) = 1 ∧ ¬ g 300 0 < en g x) from fun z => u z.1)] at q
        exact ih (x + 1) g T (by omega) hI h1 (by lia) (by lia) (by lia) t1 t2 t3 q
  have d4 := nt_le (n := 400) (by decide) (show g 321 0 ≤ nI 400 from n4.2)
  exact ⟨_, L (nt (g 321 0)) 0 g S (by omega) hI hs (by decide) (by rw [nI_nt0 n4.1]; lia) n4.1 hC fr_rf hB q⟩
theorem startShows_ok (hC : cC S g) (hI : Ia g) (hH : HO g) (hs : SB g) (hB : Bd n S) (q : ∀ T, cC T (sS (nt (g 321 0)) 0 g) → fr S T → Bd n T → Q 0 0 T) : w_X7_startShows S Q := by
  have n4 := n321 (ia_n hI)
  have L : ∀ (d : Nat) (x : Int32) (g : Gm) (T : Sg), d ≤ 1000 → Ia g → HO g → SB g → 0 ≤ x → x + nI d = g 321 0 → x ≤ g 321 0 → cC T g → fr S T → Bd n T → (∀ U, cC U (sS d x g) → fr S U → Bd n U → Q 0 0 U) → w_X7_startShows_2 Q (d + 1) x T := by
    intro d
    induction d with
    | zero =>
      intro x g T hd hI hH h1 x0 x1 x2 t1 t2 t3 q
      have e : x = g 321 0 := by rw [← x1]; show x = x + 0; lia
      rw [w_X7_startShows_2]
      unfold w_size
      rw [c_12_3 t1]
      exact kz ⟨fun a => q T t1 t2 t3, fun a => by lia⟩
    | succ d ih =>
      intro x g T hd hI hH h1 x0 x1 x2 t1 t2 t3 q
      have n4 := n321 (ia_n hI)
      have n6 := n336 (ia_n hI)
      have e5 : (nI d).toInt = d := nI_toInt (by omega)
      have e6 : 0 ≤ nI d := by rw [z_le, e5]; exact Int.natCast_nonneg d
      have e7 : nI d ≤ 1000 := by rw [z_le, e5]; show (d : Int) ≤ 1000; omega
      rw [nI1] at x1
      have hx : x < g 321 0 := by lia
      have q : ∀ U, cC U (sS d (x + 1) (if g 125 (nt x) = 0 ∧ ¬ g 300 0 < g 124 (nt x) then gRun g x else g)) → fr S U → Bd n U → Q 0 0 U := q
      rw [w_X7_startShows_2]
      unfold w_size w_get w_X7_startShows_55
      rw [c_12_3 t1]
      refine kz ⟨fun a => by lia, fun a => ⟨⟨by lia, by rw [c_12_3 t1]; lia⟩, kz ?_⟩⟩
      rw [c_56 t1 x0 hx, c_53 t1 x0 hx, c_6_0 t1, c_55 t1 x0 hx]
      refine ⟨fun u => ⟨fun w => ⟨by lia, ?_⟩, fun w => ?_⟩, fun u => ?_⟩
      · unfold w_X4_clearAway
        rintro T1 rfl T2 rfl
        refine kz ?_
        rintro T3 rfl
        have hm : ¬ g 300 0 < g 124 (nt x) := by lia
        rw [if_pos ⟨u, hm⟩] at q
        have eo : ∀ s, en (gRun g x) s = en g s := fun s => by unfold en; rw [run_o (by omega), run_o (by omega), run_o (by omega)]
        have k1 := cC_clear2 t1 x0 hx
        have k2 := cC_su (i := x) (v := 1) (show (56, 125, 321) ∈ colT by decide) (by omega) (by exact n6) k1
        rw [gu_comm (by simp)] at k2
        refine ih (x + 1) (gRun g x) _ (by omega) (Ia_run hI hH x0 hx u hm) (fun j j0 j1 jo => ?_) (fun s s0 s1 => ?_) (by lia) (by rw [run_o (by omega)]; lia) (by rw [run_o (by omega)]; lia) k2 (fr_su (fr_su (fr_su t2 (by unfold mc; omega)) (by unfold mc; omega)) (by unfold mc; omega)) (bd_same t3 rfl (fun i => by rw [su_ne (Or.inl (by decide)), su_ne (Or.inl (by decide)), su_ne (Or.inl (by decide))])) q
        · rw [run_o (by omega)] at j1 jo
          rw [run_o (by omega), run_o (by omega)]
          exact hH j j0 j1 jo
        · rw [run_o (by omega)] at s1
          rw [run_125, run_o (by omega), run_o (by omega), eo]
          split
          · rename_i z9
            have z9 := (nt_inj s0 x0).mp z9
            obtain ⟨r1, r2, r3, r4⟩ := en_rng hI x0 hx
            have h2 := (h1 x x0 hx).1 u
            rw [z9]
            exact ⟨fun z => absurd z (by decide), fun _ => ⟨by lia, by lia⟩⟩
          · exact h1 s s0 s1
      · rw [if_neg (show ¬ (g 125 (nt x) = 0 ∧ ¬ g 300 0 < g 124 (nt x)) from fun z => by have := (h1 x x0 hx).1 u; have := z.2; lia)] at q
        exact ih (x + 1) g T (by omega) hI hH h1 (by lia) (by lia) (by lia) t1 t2 t3 q
      · rw [if_neg (show ¬ (g 125 (nt x) = 0 ∧ ¬ g 300 0 < g 124 (nt x)) from fun z => u z.1)] at q
        exact ih (x + 1) g T (by omega) hI hH h1 (by lia) (by lia) (by lia) t1 t2 t3 q
  have d4 := nt_le (n := 400) (by decide) (show g 321 0 ≤ nI 400 from n4.2)
  exact ⟨_, L (nt (g 321 0)) 0 g S (by omega) hI hH hs (by decide) (by rw [nI_nt0 n4.1]; lia) n4.1 hC fr_rf hB q⟩
/-- what a leap makes of g -/
theorem leap_ok {y : Int32} (hI : Iv g) (h1 : g 300 0 < y) (h2 : y ≤ 100000) (hq : Qt g y) : Iv (chg (gu g 300 0 y)) ∧ chg (gu g 300 0 y) 300 0 = y ∧ passN (nt (y - g 300 0)) g = chg (gu g 300 0 y) := by
  obtain ⟨m0, m1, -⟩ := i_n hI
  have r := chg_ok (g := gu g 300 0 y) (Ia_min hI.1 (by lia) h2) (Iv_HO1 hI hq.1) (Iv_SA hI (by lia) hq.2)
  refine ⟨r.1, by rw [r.2, gu_at], ?_⟩
  have e1 : y - g 300 0 = (y - g 300 0 - 1) + 1 := by lia
  rw [e1, ntS (by lia) (by lia)]
  have d := nt_le (x := y - g 300 0 - 1) (n := 100000) (by decide) (show y - g 300 0 - 1 ≤ 100000 by lia)
  exact passN_quiet (y := y) (nt (y - g 300 0 - 1)) g d hI.1 hq m0 (by rw [nI1, nI_nt0 (by lia)]; lia) h2
theorem cls_pass {m : Int32} (hC : cC S g) (hI : Iv g) (hB : Bd n S) (hn : n < 20000) (hQ : cPost n (rPass g m) S Q) : w_X7_pass m S Q := by
  obtain ⟨m0, m1, -⟩ := i_n hI
  unfold w_X7_pass
  refine needWithin_ok (fun r1 => kz ?_) (fun r1 => cThr1 (by decide) hC hI hB hn (cP_of hQ (if_neg r1)))
  rw [c_6_0 hC]
  rintro v rfl
  refine ⟨fun r2 => ?_, fun r2 => cThr hC hI hB hn (cP_of hQ (by unfold rPass; rw [if_pos r1, if_neg r2]))⟩
  have hQ := cP_of hQ (show rPass g m = (0, passN (nt m) g 300 0, passN (nt m) g) by unfold rPass; rw [if_pos r1, if_pos r2])
  obtain ⟨r3, r4⟩ := r1
  have fin : ∀ (k : Gm) (T : Sg), k = passN (nt m) g → cC T k → fr S T → Bd n T → w_X7_pass_73 Q T := fun k T e t1 t2 t3 => by
    unfold w_X7_pass_73
    rw [c_6_0 t1]
    subst e
    exact hQ T t1 t2 (bd_up t3)
  have L : ∀ (d : Nat) (x : Int32) (k : Gm) (T : Sg), 0 ≤ x → x ≤ m → k 300 0 ≤ g 300 0 + m → g 300 0 + m - k 300 0 ≤ m - x → nt (g 300 0 + m - k 300 0) ≤ d → Iv k → passN (nt (g 300 0 + m - k 300 0)) k = passN (nt m) g → cC T k → fr S T → Bd n T → w_X7_pass_33 Q (d + 1) m (g 300 0 + m) x T := by
    intro d
    induction d with
    | zero =>
      intro x k T x0 x1 k1 k2 hd kI kp t1 t2 t3
      obtain ⟨km0, km1, -⟩ := i_n kI
      have ez : g 300 0 + m = k 300 0 := by
        have h4 := nt_cast (x := g 300 0 + m - k 300 0) (by lia)
        have h0 : g 300 0 + m - k 300 0 = 0 := Int32.toInt_inj.mp (by rw [← h4]; show ((_ : Nat) : Int) = 0; omega)
        lia
      have e : k = passN (nt m) g := by
        rw [← kp, ez, show k 300 0 - k 300 0 = 0 by lia]; rfl
      rw [w_X7_pass_33]
      exact ⟨fun _ => fin k T e t1 t2 t3, fun _ => ⟨fun _ => fin k T e t1 t2 t3, fun z => absurd (by rw [c_6_0 t1, ez]; lia) z⟩⟩
    | succ d ih =>
      intro x k T x0 x1 k1 k2 hd kI kp t1 t2 t3
      obtain ⟨km0, km1, -⟩ := i_n kI
      have e : g 300 0 + m ≤ k 300 0 → k = passN (nt m) g := fun z => by
        rw [← kp, show g 300 0 + m - k 300 0 = 0 by lia]; rfl
      rw [w_X7_pass_33]
      rw [c_6_0 t1]
      refine ⟨fun z => fin k T (e (by lia)) t1 t2 t3, fun z => ⟨fun z2 => fin k T (e z2) t1 t2 t3, fun z2 => ?_⟩⟩
      refine nextChange_ok t1 kI (by lia) (fun y y1 y2 hq => kz ?_)
      rintro T1 rfl
      have u1 := cC_num (v := y) (Or.inl ⟨rfl, rfl⟩) t1
      have f1 : fr S (su T 6 0 y) := fr_su t2 (by unfold mc; omega)
      have b1 : Bd n (su T 6 0 y) := bd_same t3 rfl (fun i => su_ne (Or.inl (by decide)))
      have i1 := Ia_min (y := y) kI.1 (by lia) (by lia)
      have i2 := Iv_HO1 kI hq.1
      have i3 := Iv_SA kI (by lia) hq.2
      have n3 := n321 (ia_n i1)
      have n4 := n331 (ia_n i1)
      have d3 := nt_le (n := 400) (by decide) (show gu k 300 0 y 321 0 ≤ nI 400 from n3.2)
      have d4 := nt_le (n := 400) (by decide) (show gu k 300 0 y 331 0 ≤ nI 400 from n4.2)
      obtain ⟨o1, o2, o3, o4, o5, o6⟩ := eH_ok (nt (gu k 300 0 y 331 0)) 0 (gu k 300 0 y) (by omega) i1 i2 i3 (by decide) (by rw [nI_nt0 n4.1]; lia) n4.1 (fun j j0 j1 => by lia)
      refine endHolds_ok (by omega) u1 i1 i2 b1 (fun T2 u2 f2 b2 => kz ?_)
      obtain ⟨p1, p2, p3, p4, p5, p6⟩ := eS_ok (nt (gu k 300 0 y 321 0)) 0 _ (by omega) o1 o2 o3 (by decide) (by rw [nI_nt0 n3.1, o5]; lia) (by rw [o5]; exact n3.1) (fun j j0 j1 => by lia)
      refine endShows_ok u2 o1 o3 b2 (fun T3 u3 f3 b3 => kz ?_)
      rw [o5] at u3
      refine startShows_ok u3 p1 p2 p3 b3 (fun T4 u4 f4 b4 => kz ?_)
      rw [p5, o5] at u4
      have u4 : cC T4 (chg (gu k 300 0 y)) := u4
      obtain ⟨l1, l2, l3⟩ := leap_ok kI y1 (by lia) hq
      have add : nt (g 300 0 + m - k 300 0) = nt (y - k 300 0) + nt (g 300 0 + m - y) := by
        rw [← nt_add (by lia) (by lia) (by lia) (by lia)]
        congr 1
        lia
      have pos : 1 ≤ nt (y - k 300 0) := by
        rw [show y - k 300 0 = (y - k 300 0 - 1) + 1 by lia, ntS (by lia) (by lia)]
        omega
      refine ih (x + 1) (chg (gu k 300 0 y)) T4 (by lia) (by lia) (by rw [l2]; lia) (by rw [l2]; lia) (by rw [l2]; omega) l1 ?_ u4 (fr_tr (fr_tr (fr_tr f1 f2) f3) f4) b4
      rw [l2, ← kp, add, passN_add, l3]
  exact ⟨_, L (nt m) 0 g S (by decide) (by lia) (by lia) (by lia) (by rw [show g 300 0 + m - g 300 0 = m by lia]; exact Nat.le_refl _) hI (by rw [show g 300 0 + m - g 300 0 = m by lia]) hC fr_rf hB⟩
end P3
