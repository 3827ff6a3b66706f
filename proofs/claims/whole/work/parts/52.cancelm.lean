/-! cancel: the reference -/
section CM
variable {n : Nat} {g : Gm} {S S0 : Sg} {Q : Nat → Int32 → Sg → Prop}
theorem mod_cancel {s : Int32} (hM : mC S g) (hI : Iv g) (hQ : mPost [3, 2] (rCancel g s) S Q) : w_X8_cancel s S Q := by
  have hn := i_n hI
  have n3 := n336 hn
  have n4 := n331 hn
  have hI1 := hI.1
  unfold w_X8_cancel w_X8_cancel_27
  refine isShow_ok hM hn (fun r1 => kb1 ⟨v30 hn r1.1 r1.2, ?_⟩) (fun r1 => kb0 (mFail (mP_of hQ (if_neg r1)) hM (by decide) rfl (by decide)))
  obtain ⟨s0, s1⟩ := r1
  have vs := v30 hn s0 s1
  obtain ⟨-, -, -, -, -, -, -, -, -, -, -, b12, -⟩ := id hn
  rw [hM _ _ (mcA : mc 125)]
  refine ⟨fun r2 => mGo ?_, fun r2 => mFail (mP_of hQ (by unfold rCancel; rw [if_pos ⟨s0, s1⟩, if_neg r2])) hM (by decide) rfl (by decide)⟩
  have hQ := mP_of hQ (show rCancel g s = (0, pf g s, gCancel g s) by unfold rCancel; rw [if_pos ⟨s0, s1⟩, if_pos r2])
  have h0 := mS0 hM
  have L3 : ∀ (d : Nat) (x : Int32) (T : Sg), 0 ≤ x → x + nI d = 48 → x ≤ 48 → mS S T (gC3 g s (nt x)) → w_X8_cancel_137 Q (d + 1) s (pf g s) (48 * s + x) T := by
    intro d
    have fin : ∀ (x : Int32) (T : Sg), x = 48 → mS S T (gC3 g s (nt x)) → (vp_in s 30 ∧ (∀ S1, S1 = su T 128 (nt s) 0 → (vp_in s 30 ∧ (∀ S2, S2 = su S1 125 (nt s) 4 → Q 0 (pf g s) S2)))) := fun x T e k => by
      subst e
      rw [show nt 48 = 48 from rfl] at k
      refine ⟨vs, stm k mcA rfl rfl fun T1 k1 => ⟨vs, stm k1 mcA rfl rfl fun T2 k2 => ?_⟩⟩
      rw [c_end] at k2
      exact mEnd hQ k2 rfl
    induction d with
    | zero =>
      intro x T x0 x1 x2 k
      have e : x = 48 := by rw [← x1]; show x = x + 0; lia
      rw [w_X8_cancel_137]
      exact ⟨fun _ => fin x T e k, fun z => by lia⟩
    | succ d ih =>
      intro x T x0 x1 x2 k
      rw [w_X8_cancel_137]
      refine ⟨fun z => fin x T (by lia) k, fun z => ?_⟩
      have v := v1440 hI1 ⟨s0, s1⟩ x0 (show x < 48 by lia)
      have ea : nt (48 * s + x) = nt (48 * s) + nt x := nt_add (by lia) x0 (by lia) (by lia)
      refine ⟨v, stm k mcA ea rfl fun T1 k1 => ⟨v, stm k1 mcA ea rfl fun T2 k2 => ?_⟩⟩
      rw [c3_step, ← ntS x0 (show x < 2147483647 by lia)] at k2
      rw [show 48 * s + x + 1 = 48 * s + (x + 1) by lia]
      exact ih (x + 1) T2 (by lia) (by rw [nI1] at x1; lia) (by lia) k2
  have L2 : ∀ (d : Nat) (x : Int32) (T : Sg), 0 ≤ x → x + nI d = g 331 0 → x ≤ g 331 0 → mS S T (gC2 g s (nt x)) → w_X8_cancel_88 Q (d + 1) s (pf g s) x T := by
    intro d
    have fin : ∀ (x : Int32) (T : Sg), x = g 331 0 → mS S T (gC2 g s (nt x)) → (∀ v6, v6 = 48 * s → ∃ n9, w_X8_cancel_137 Q n9 s (pf g s) v6 T) := fun x T e k => by
      subst e
      rw [← c3_0] at k
      rintro v rfl
      have := L3 48 0 T (by decide) rfl (by decide) k
      rw [show 48 * s + 0 = 48 * s by lia] at this
      exact ⟨_, this⟩
    induction d with
    | zero =>
      intro x T x0 x1 x2 k
      have e : x = g 331 0 := by rw [← x1]; show x = x + 0; lia
      have y : T.1 331 0 = g 331 0 := k.1 _ _ m331
      rw [w_X8_cancel_88, y]
      exact ⟨fun _ => fin x T e k, fun z => by lia⟩
    | succ d ih =>
      intro x T x0 x1 x2 k
      have y : T.1 331 0 = g 331 0 := k.1 _ _ m331
      have y5 : T.1 135 (nt x) = g 135 (nt x) := (k.1 _ _ mcA).trans c2_at
      have y2 : T.1 132 (nt x) = g 132 (nt x) := k.1 _ _ mcA
      rw [w_X8_cancel_88, y, y5, y2]
      refine ⟨fun z => fin x T (by lia) k, fun z => ?_⟩
      have hx : x < g 331 0 := by lia
      have v := v100 hn x0 hx
      have eS := ntS x0 (show x < 2147483647 by lia)
      obtain ⟨-, -, -, -, i0, -⟩ := ia_o hI1 x x0 hx
      have nx : ∀ T1, mS S T1 (gC2 g s (nt x + 1)) → w_X8_cancel_88 Q (d + 1) s (pf g s) (x + 1) T1 := fun T1 k1 => ih (x + 1) T1 (by lia) (by rw [nI1] at x1; lia) (by lia) (by rw [eS]; exact k1)
      unfold w_X8_cancel_120 w_X8_cancel_125
      refine ⟨v, fun a => ⟨v, fun b => ⟨v, Or.inr rfl, stm k mcA rfl rfl fun T1 k1 => nx T1 ?_⟩, fun b => ⟨v, Or.inl rfl, stm k mcA rfl rfl fun T1 k1 => nx T1 ?_⟩⟩, fun a => ⟨v, Or.inr rfl, stm k mcA rfl rfl fun T1 k1 => nx T1 ?_⟩⟩
      · rw [c2_yes b] at k1; exact k1
      · rw [gu_self (by rw [c2_at, a])] at k1
        rw [c2_no b]; exact k1
      · have a1 := i0.resolve_left a
        by_cases b : g 132 (nt x) = s
        · rw [c2_yes b] at k1; exact k1
        · rw [gu_self (by rw [c2_at, a1])] at k1
          rw [c2_no b]; exact k1
  have L1 : ∀ (d : Nat) (x : Int32) (T : Sg), 0 ≤ x → x + nI d = g 336 0 → x ≤ g 336 0 → mS S T (gC1 g s (nt x)) → w_X8_cancel_39 Q (d + 1) s (sm (fun t => if g 137 (nt t) = s then g 140 (nt t) else 0) (nt x)) x T := by
    intro d
    have fin : ∀ (x : Int32) (T : Sg), x = g 336 0 → mS S T (gC1 g s (nt x)) → ∃ n9, w_X8_cancel_88 Q n9 s (sm (fun t => if g 137 (nt t) = s then g 140 (nt t) else 0) (nt x)) 0 T := fun x T e k => by
      subst e
      exact ⟨nt (g 331 0) + 1, L2 _ 0 T (by decide) (by rw [nI_nt0 n4.1]; lia) n4.1 (by rw [show nt 0 = 0 from rfl, c2_0]; exact k)⟩
    induction d with
    | zero =>
      intro x T x0 x1 x2 k
      have e : x = g 336 0 := by rw [← x1]; show x = x + 0; lia
      have y : T.1 336 0 = g 336 0 := k.1 _ _ m336
      rw [w_X8_cancel_39, y]
      exact ⟨fun _ => fin x T e k, fun z => by lia⟩
    | succ d ih =>
      intro x T x0 x1 x2 k
      have y : T.1 336 0 = g 336 0 := k.1 _ _ m336
      have y7 : T.1 137 (nt x) = g 137 (nt x) := k.1 _ _ mcA
      have y0 : T.1 140 (nt x) = g 140 (nt x) := (k.1 _ _ mcA).trans c1_at.1
      rw [w_X8_cancel_39, y, y7, y0]
      refine ⟨fun z => fin x T (by lia) k, fun z => ?_⟩
      have hx : x < g 336 0 := by lia
      have v := v400 hn x0 hx
      have eS := ntS x0 (show x < 2147483647 by lia)
      have st := sm_succ (f := fun t => if g 137 (nt t) = s then g 140 (nt t) else 0) x0 (show x < 2147483647 by lia)
      unfold w_X8_cancel_80
      refine ⟨v, fun a => ⟨v, ?_⟩, fun a => ?_⟩
      · rintro v7 rfl
        refine ⟨v, stm k mcA rfl rfl fun T1 k1 => ⟨v, Or.inr rfl, stm k1 mcA rfl rfl fun T2 k2 => ?_⟩⟩
        rw [c1_yes a, ← eS] at k2
        have e9 : sm (fun t => if g 137 (nt t) = s then g 140 (nt t) else 0) (nt x) + g 140 (nt x) = sm (fun t => if g 137 (nt t) = s then g 140 (nt t) else 0) (nt (x + 1)) := by rw [st, if_pos a]
        rw [e9]
        exact ih (x + 1) T2 (by lia) (by rw [nI1] at x1; lia) (by lia) k2
      · have e9 : sm (fun t => if g 137 (nt t) = s then g 140 (nt t) else 0) (nt (x + 1)) = sm (fun t => if g 137 (nt t) = s then g 140 (nt t) else 0) (nt x) := by rw [st, if_neg a]; lia
        have := ih (x + 1) T (by lia) (by rw [nI1] at x1; lia) (by lia) (by rw [eS, c1_no a]; exact k)
        rw [e9] at this
        exact this
  have := L1 (nt (g 336 0)) 0 _ (by decide) (by rw [nI_nt0 n3.1]; lia) n3.1 (by rw [show nt 0 = 0 from rfl, c1_0]; exact h0)
  exact ⟨_, this⟩
end CM
