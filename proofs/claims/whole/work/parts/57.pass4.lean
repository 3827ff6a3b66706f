/-! minutes: the reference -/
section P4
variable {g : Gm} {S S0 : Sg} {Q : Nat → Int32 → Sg → Prop}
theorem runs_ok (h : mS S0 S g) (hI : Ia g) (hH : HO g) (hs : SB g) (q : ∀ T, mS S0 T (sS (nt (g 321 0)) 0 g) → Q 0 0 T) : ∃ n9, w_X8_passes_126 Q n9 0 S := by
  have n4 := n321 (ia_n hI)
  have L : ∀ (d : Nat) (x : Int32) (g : Gm) (T : Sg), d ≤ 1000 → Ia g → HO g → SB g → 0 ≤ x → x + nI d = g 321 0 → x ≤ g 321 0 → mS S0 T g → (∀ U, mS S0 U (sS d x g) → Q 0 0 U) → w_X8_passes_126 Q (d + 1) x T := by
    intro d
    induction d with
    | zero =>
      intro x g T hd hI hH h1 x0 x1 x2 t1 q
      have e : x = g 321 0 := by rw [← x1]; show x = x + 0; lia
      have y : T.1 321 0 = g 321 0 := t1.1 _ _ m321
      rw [w_X8_passes_126]
      rw [y]
      exact ⟨fun a => q T t1, fun a => by lia⟩
    | succ d ih =>
      intro x g T hd hI hH h1 x0 x1 x2 t1 q
      have n4 := n321 (ia_n hI)
      have e5 : (nI d).toInt = d := nI_toInt (by omega)
      have e6 : 0 ≤ nI d := by rw [z_le, e5]; exact Int.natCast_nonneg d
      have e7 : nI d ≤ 1000 := by rw [z_le, e5]; show (d : Int) ≤ 1000; omega
      rw [nI1] at x1
      have hx : x < g 321 0 := by lia
      have vx := v30 (ia_n hI) x0 hx
      have q : ∀ U, mS S0 U (sS d (x + 1) (if g 125 (nt x) = 0 ∧ ¬ g 300 0 < g 124 (nt x) then gRun g x else g)) → Q 0 0 U := q
      have y : T.1 321 0 = g 321 0 := t1.1 _ _ m321
      have y2 : T.1 125 (nt x) = g 125 (nt x) := t1.1 _ _ mcA
      have y3 : T.1 124 (nt x) = g 124 (nt x) := t1.1 _ _ mcA
      have y4 : T.1 300 0 = g 300 0 := t1.1 _ _ m300
      rw [w_X8_passes_126]
      unfold w_X8_passes_170
      rw [y, y2, y3, y4]
      refine ⟨fun a => by lia, fun a => ⟨vx, fun u => ⟨vx, fun w => ?_, fun w => ⟨vx, stm t1 mcA rfl rfl fun T1 k1 => ⟨vx, stm k1 mcA rfl rfl fun T2 k2 => ?_⟩⟩⟩, fun u => ?_⟩⟩
      · rw [if_neg (show ¬ (g 125 (nt x) = 0 ∧ ¬ g 300 0 < g 124 (nt x)) from fun z => z.2 w)] at q
        exact ih (x + 1) g T (by omega) hI hH h1 (by lia) (by lia) (by lia) t1 q
      · rw [if_pos ⟨u, w⟩] at q
        have eo : ∀ s, en (gRun g x) s = en g s := fun s => by unfold en; rw [run_o (by omega), run_o (by omega), run_o (by omega)]
        refine ih (x + 1) (gRun g x) T2 (by omega) (Ia_run hI hH x0 hx u w) (fun j j0 j1 jo => ?_) (fun s s0 s1 => ?_) (by lia) (by rw [run_o (by omega)]; lia) (by rw [run_o (by omega)]; lia) k2 q
        · rw [run_o (by omega)] at j1 jo
          rw [run_o (by omega), run_o (by omega)]
          exact hH j j0 j1 jo
        · rw [run_o (by omega)] at s1
          rw [run_125, run_o (by omega), run_o (by omega), eo]
          split
          · rename_i z9
            have z9 := (nt_inj s0 x0).mp z9
            obtain ⟨r1, r2, r3, r4⟩ := en_rng hI x0 hx
            have h2 := (h1 x x0 hx).1 u
            rw [z9]
            exact ⟨fun z => absurd z (by decide), fun _ => ⟨by lia, by lia⟩⟩
          · exact h1 s s0 s1
      · rw [if_neg (show ¬ (g 125 (nt x) = 0 ∧ ¬ g 300 0 < g 124 (nt x)) from fun z => u z.1)] at q
        exact ih (x + 1) g T (by omega) hI hH h1 (by lia) (by lia) (by lia) t1 q
  have d4 := nt_le (n := 400) (by decide) (show g 321 0 ≤ nI 400 from n4.2)
  exact ⟨_, L (nt (g 321 0)) 0 g S (by omega) hI hH hs (by decide) (by rw [nI_nt0 n4.1]; lia) n4.1 h q⟩
theorem overs_ok (h : mS S0 S g) (hI : Ia g) (q : ∀ T, mS S0 T (eS (nt (g 321 0)) 0 g) → ∃ n9, w_X8_passes_126 Q n9 0 T) : ∃ n9, w_X8_passes_56 Q n9 0 S := by
  have n4 := n321 (ia_n hI)
  have L : ∀ (d : Nat) (x : Int32) (g : Gm) (T : Sg), d ≤ 1000 → Ia g → 0 ≤ x → x + nI d = g 321 0 → x ≤ g 321 0 → mS S0 T g → (∀ U, mS S0 U (eS d x g) → ∃ n9, w_X8_passes_126 Q n9 0 U) → w_X8_passes_56 Q (d + 1) x T := by
    intro d
    induction d with
    | zero =>
      intro x g T hd hI x0 x1 x2 t1 q
      have e : x = g 321 0 := by rw [← x1]; show x = x + 0; lia
      have y : T.1 321 0 = g 321 0 := t1.1 _ _ m321
      rw [w_X8_passes_56]
      rw [y]
      exact ⟨fun a => q T t1, fun a => by lia⟩
    | succ d ih =>
      intro x g T hd hI x0 x1 x2 t1 q
      have n4 := n321 (ia_n hI)
      have e5 : (nI d).toInt = d := nI_toInt (by omega)
      have e6 : 0 ≤ nI d := by rw [z_le, e5]; exact Int.natCast_nonneg d
      have e7 : nI d ≤ 1000 := by rw [z_le, e5]; show (d : Int) ≤ 1000; omega
      rw [nI1] at x1
      have hx : x < g 321 0 := by lia
      obtain ⟨hf, hh⟩ := i_s1 hI x0 hx
      have vx := v30 (ia_n hI) x0 hx
      have vf := v8 (ia_n hI) hf
      have vh := v4 (ia_n hI) hh
      have q : ∀ U, mS S0 U (eS d (x + 1) (if g 125 (nt x) = 1 ∧ ¬ g 300 0 < en g x then gOver g x else g)) → ∃ n9, w_X8_passes_126 Q n9 0 U := q
      have y : T.1 321 0 = g 321 0 := t1.1 _ _ m321
      have y2 : T.1 125 (nt x) = g 125 (nt x) := t1.1 _ _ mcA
      have y4 : T.1 300 0 = g 300 0 := t1.1 _ _ m300
      rw [w_X8_passes_56]
      unfold w_X8_passes_118
      rw [y, y2]
      refine ⟨fun a => by lia, fun a => ⟨vx, fun u => endM_ok t1.1 hI x0 hx (kz ?_), fun u => ?_⟩⟩
      · rw [y4]
        refine ⟨fun w => ?_, fun w => ⟨vx, stm t1 mcA rfl rfl fun T1 k1 => ?_⟩⟩
        · rw [if_neg (show ¬ (g 125 (nt x) = 1 ∧ ¬ g 300 0 < en g x) from fun z => z.2 w)] at q
          exact ih (x + 1) g T (by omega) hI (by lia) (by lia) (by lia) t1 q
        · rw [if_pos ⟨u, w⟩] at q
          have z1 : T1.1 123 (nt x) = g 123 (nt x) := k1.1 _ _ mcA
          have z2 : T1.1 122 (nt x) = g 122 (nt x) := k1.1 _ _ mcA
          have z3 : T1.1 105 (nt (g 123 (nt x))) = g 105 (nt (g 123 (nt x))) := k1.1 _ _ mcA
          have z4 : T1.1 108 (nt (g 122 (nt x))) = g 108 (nt (g 122 (nt x))) := k1.1 _ _ mcA
          rw [z1, z2, z3, z4]
          exact ⟨vx, vh, vx, vf, vh, stm k1 mcA rfl rfl fun T2 k2 => ih (x + 1) (gOver g x) T2 (by omega) (Ia_over hI x0 hx u) (by lia) (by rw [over_o (by omega)]; lia) (by rw [over_o (by omega)]; lia) k2 q⟩
      · rw [if_neg (show ¬ (g 125 (nt x) = 1 ∧ ¬ g 300 0 < en g x) from fun z => u z.1)] at q
        exact ih (x + 1) g T (by omega) hI (by lia) (by lia) (by lia) t1 q
  have d4 := nt_le (n := 400) (by decide) (show g 321 0 ≤ nI 400 from n4.2)
  exact ⟨_, L (nt (g 321 0)) 0 g S (by omega) hI (by decide) (by rw [nI_nt0 n4.1]; lia) n4.1 h q⟩
theorem endsAll_ok (h : mS S0 S g) (hI : Ia g) (q : ∀ T, mS S0 T (eH (nt (g 331 0)) 0 g) → ∃ n9, w_X8_passes_56 Q n9 0 T) : ∃ n9, w_X8_passes_12 Q n9 0 S := by
  have n4 := n331 (ia_n hI)
  have L : ∀ (d : Nat) (x : Int32) (g : Gm) (T : Sg), d ≤ 1000 → Ia g → 0 ≤ x → x + nI d = g 331 0 → x ≤ g 331 0 → mS S0 T g → (∀ U, mS S0 U (eH d x g) → ∃ n9, w_X8_passes_56 Q n9 0 U) → w_X8_passes_12 Q (d + 1) x T := by
    intro d
    induction d with
    | zero =>
      intro x g T hd hI x0 x1 x2 t1 q
      have e : x = g 331 0 := by rw [← x1]; show x = x + 0; lia
      have y : T.1 331 0 = g 331 0 := t1.1 _ _ m331
      rw [w_X8_passes_12]
      rw [y]
      exact ⟨fun a => q T t1, fun a => by lia⟩
    | succ d ih =>
      intro x g T hd hI x0 x1 x2 t1 q
      have n4 := n331 (ia_n hI)
      have e5 : (nI d).toInt = d := nI_toInt (by omega)
      have e6 : 0 ≤ nI d := by rw [z_le, e5]; exact Int.natCast_nonneg d
      have e7 : nI d ≤ 1000 := by rw [z_le, e5]; show (d : Int) ≤ 1000; omega
      rw [nI1] at x1
      have hx : x < g 331 0 := by lia
      have vx := v100 (ia_n hI) x0 hx
      have q : ∀ U, mS S0 U (eH d (x + 1) (if g 135 (nt x) = 0 ∧ ¬ g 300 0 < g 134 (nt x) then (gEnds g x).2 else g)) → ∃ n9, w_X8_passes_56 Q n9 0 U := q
      have y : T.1 331 0 = g 331 0 := t1.1 _ _ m331
      have y2 : T.1 135 (nt x) = g 135 (nt x) := t1.1 _ _ mcA
      have y3 : T.1 134 (nt x) = g 134 (nt x) := t1.1 _ _ mcA
      have y4 : T.1 300 0 = g 300 0 := t1.1 _ _ m300
      rw [w_X8_passes_12]
      unfold w_X8_passes_48
      rw [y, y2, y3, y4]
      refine ⟨fun a => by lia, fun a => ⟨vx, fun u => ⟨vx, fun w => ?_, fun w => ?_⟩, fun u => ?_⟩⟩
      · rw [if_neg (show ¬ (g 135 (nt x) = 0 ∧ ¬ g 300 0 < g 134 (nt x)) from fun z => z.2 w)] at q
        exact ih (x + 1) g T (by omega) hI (by lia) (by lia) (by lia) t1 q
      · rw [if_pos ⟨u, w⟩] at q
        exact endsM_ok t1 hI x0 hx u (fun U k => kz (ih (x + 1) _ U (by omega) (Ia_ends hI x0 hx u) (by lia) (by rw [ends_o (by omega)]; lia) (by rw [ends_o (by omega)]; lia) k q))
      · rw [if_neg (show ¬ (g 135 (nt x) = 0 ∧ ¬ g 300 0 < g 134 (nt x)) from fun z => u z.1)] at q
        exact ih (x + 1) g T (by omega) hI (by lia) (by lia) (by lia) t1 q
  have d4 := nt_le (n := 400) (by decide) (show g 331 0 ≤ nI 400 from n4.2)
  exact ⟨_, L (nt (g 331 0)) 0 g S (by omega) hI (by decide) (by rw [nI_nt0 n4.1]; lia) n4.1 h q⟩
theorem passes_ok (h : mS S0 S g) (hI : Iv g) (hm : g 300 0 < 100000) (q : ∀ T, mS S0 T (gMin g) → Q 0 0 T) : w_X8_passes S Q := by
  obtain ⟨m0, m1, -⟩ := i_n hI
  unfold w_X8_passes
  refine stm h m300 rfl (congrArg (· + 1) (h.1 _ _ m300)) fun T k => ?_
  have k : mS S0 T (gu g 300 0 (g 300 0 + 1)) := k
  have i1 := Ia_min (y := g 300 0 + 1) hI.1 (by lia) (by lia)
  have i2 := Iv_HO1 (y := g 300 0 + 1) hI (fun k k0 k1 ko => by have := hI.2.1 k k0 k1 ko; lia)
  have i3 := Iv_SA (y := g 300 0 + 1) hI (by lia) (fun s s0 s1 => ⟨fun z => by have := (hI.2.2 s s0 s1).1 z; lia, fun z => by have := ((hI.2.2 s s0 s1).2 z).2; lia⟩)
  have n3 := n321 (ia_n i1)
  have n4 := n331 (ia_n i1)
  have d3 := nt_le (n := 400) (by decide) (show gu g 300 0 (g 300 0 + 1) 321 0 ≤ nI 400 from n3.2)
  have d4 := nt_le (n := 400) (by decide) (show gu g 300 0 (g 300 0 + 1) 331 0 ≤ nI 400 from n4.2)
  obtain ⟨o1, o2, o3, o4, o5, o6⟩ := eH_ok (nt (gu g 300 0 (g 300 0 + 1) 331 0)) 0 (gu g 300 0 (g 300 0 + 1)) (by omega) i1 i2 i3 (by decide) (by rw [nI_nt0 n4.1]; lia) n4.1 (fun j j0 j1 => by lia)
  refine endsAll_ok k i1 (fun T2 k2 => ?_)
  obtain ⟨p1, p2, p3, p4, p5, p6⟩ := eS_ok (nt (gu g 300 0 (g 300 0 + 1) 321 0)) 0 _ (by omega) o1 o2 o3 (by decide) (by rw [nI_nt0 n3.1, o5]; lia) (by rw [o5]; exact n3.1) (fun j j0 j1 => by lia)
  refine overs_ok k2 o1 (fun T3 k3 => ?_)
  rw [o5] at k3
  refine runs_ok k3 p1 p2 p3 (fun T4 k4 => ?_)
  rw [p5, o5] at k4
  exact q T4 k4
theorem mod_pass {m : Int32} (hM : mC S g) (hI : Iv g) (hQ : mPost [1, 2] (rPass g m) S Q) : w_X8_pass m S Q := by
  obtain ⟨m0, m1, -⟩ := i_n hI
  unfold w_X8_pass
  have y : S.1 300 0 = g 300 0 := hM _ _ m300
  refine isIn_ok (fun r1 => kb1 ?_) (fun r1 => kb0 ?_)
  · rw [y]
    refine ⟨fun r2 => ?_, fun r2 => ?_⟩
    · have hQ := mP_of hQ (show rPass g m = (0, passN (nt m) g 300 0, passN (nt m) g) by unfold rPass; rw [if_pos r1, if_pos r2])
      obtain ⟨r3, r4⟩ := r1
      unfold w_X8_pass_32
      refine mGo ?_
      have L : ∀ (d : Nat) (x : Int32) (k : Gm) (T : Sg), d ≤ 5000 → 0 ≤ x → x + nI d = m → k 300 0 + nI d ≤ 100000 → Iv k → passN d k = passN (nt m) g → mS S T k → w_X8_pass_42 Q (d + 1) m x T := by
        intro d
        induction d with
        | zero =>
          intro x k T hd x0 x1 k1 kI kp t1
          have e : x = m := by rw [← x1]; show x = x + 0; lia
          rw [w_X8_pass_42]
          exact ⟨fun _ => mEnd hQ (kp ▸ t1) ((t1.1 _ _ m300).trans (by rw [← kp]; rfl)), fun z => by lia⟩
        | succ d ih =>
          intro x k T hd x0 x1 k1 kI kp t1
          obtain ⟨km0, km1, -⟩ := i_n kI
          have e5 : (nI d).toInt = d := nI_toInt (by omega)
          have e6 : 0 ≤ nI d := by rw [z_le, e5]; exact Int.natCast_nonneg d
          have e7 : nI d ≤ 5000 := by rw [z_le, e5]; show (d : Int) ≤ 5000; omega
          rw [nI1] at x1 k1
          rw [w_X8_pass_42]
          refine ⟨fun z => by lia, fun z => passes_ok t1 kI (by lia) (fun T1 u1 => kz ?_)⟩
          obtain ⟨j1, j2⟩ := Iv_gMin kI (by lia)
          exact ih (x + 1) (gMin k) T1 (by omega) (by lia) (by lia) (by rw [j2]; lia) j1 kp u1
      have d4 := nt_le (n := 5000) (by decide) (show m ≤ nI 5000 from r4)
      exact ⟨_, L (nt m) 0 g _ d4 (by decide) (by rw [nI_nt0 (by lia)]; lia) (by rw [nI_nt0 (by lia)]; exact r2) hI rfl (mS0 hM)⟩
    · unfold w_X8_pass_32
      exact mFail (mP_of hQ (by unfold rPass; rw [if_pos r1, if_neg r2])) hM (by decide) rfl (by decide)
  · unfold w_X8_pass_32
    exact mFail (mP_of hQ (if_neg r1)) hM (by decide) rfl (by decide)
end P4
