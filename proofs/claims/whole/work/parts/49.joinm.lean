/-! join: the reference -/
section JM
variable {n : Nat} {g : Gm} {S S0 : Sg} {Q : Nat → Int32 → Sg → Prop}
theorem fullM_ok {s : Int32} (hM : mC S g) (hI : Ia g) (h0 : 0 ≤ s) (h1 : s < g 321 0) (q1 : full g s → Q 0 1 S) (q0 : ¬ full g s → Q 0 0 S) : w_X8_isFull s S Q := by
  have w := wd_le (ia_h hI) (ia_s hI) h0 h1
  obtain ⟨-, g1, g2⟩ := i_s1 hI h0 h1
  have vs := v30 (ia_n hI) h0 h1
  have vh := v4 (ia_n hI) ⟨g1, g2⟩
  have L : ∀ (d : Nat) (x v : Int32), 0 ≤ x → x + nI d = wd g s → x ≤ wd g s → flg v (∀ p : Int32, 0 ≤ p → p < x → ¬ fre g s p) → w_X8_isFull_4 Q (d + 1) s v x S := by
    intro d
    have stop : ∀ x v : Int32, x = wd g s → flg v (∀ p : Int32, 0 ≤ p → p < x → ¬ fre g s p) → ((v = 0 ∨ v = 1) ∧ Q 0 v S) := fun x v e h => by
      rw [e] at h
      rcases h with ⟨a, b⟩ | ⟨a, b⟩
      · rw [a]; exact ⟨Or.inr rfl, q1 b⟩
      · rw [a]; exact ⟨Or.inl rfl, q0 b⟩
    induction d with
    | zero =>
      intro x v a b c h
      have e : x = wd g s := by rw [← b]; show x = x + 0; lia
      rw [w_X8_isFull_4, hM _ _ (mcA : mc 123), hM _ _ (mcA : mc 103), hM _ _ (mcA : mc 104)]
      exact ⟨vs, vh, vs, vh, fun _ => stop x v e h, fun z => by have z : ¬ wd g s ≤ x := z; lia⟩
    | succ d ih =>
      intro x v a b c h
      rw [w_X8_isFull_4, hM _ _ (mcA : mc 123), hM _ _ (mcA : mc 103), hM _ _ (mcA : mc 104)]
      refine ⟨vs, vh, vs, vh, fun z => stop x v (by have z : wd g s ≤ x := z; lia) h, fun z => ?_⟩
      have z : ¬ wd g s ≤ x := z
      have nx : ∀ v', flg v' ((∀ p : Int32, 0 ≤ p → p < x → ¬ fre g s p) ∧ ¬ fre g s x) → w_X8_isFull_4 Q (d + 1) s v' (x + 1) S := fun v' h2 => by
        refine ih (x + 1) v' (by lia) (by rw [nI1] at b; lia) (by lia) ?_
        have e : ((∀ p : Int32, 0 ≤ p → p < x → ¬ fre g s p) ∧ ¬ fre g s x) ↔ (∀ p : Int32, 0 ≤ p → p < x + 1 → ¬ fre g s p) := by
          constructor
          · rintro ⟨h5, h6⟩ p p0 p1
            rcases i32_lt1 p1 a (by lia) with e | e
            · exact h5 p p0 e
            · rw [e]; exact h6
          · intro h5
            exact ⟨fun p p0 p1 => h5 p p0 (by lia), h5 x a (by lia)⟩
        rw [← e]; exact h2
      unfold w_X8_isFull_48 w_X8_isFull_49
      exact ⟨fun y => nx 0 (Or.inr ⟨rfl, fun u => flg_0 h y u.1⟩), fun y => isFree_ok hM hI ⟨h0, h1⟩ a (by lia) (fun u => kb1 (nx 0 (Or.inr ⟨rfl, fun t => t.2 u⟩))) (fun u => kb0 (nx 1 (Or.inl ⟨rfl, flg_1 h y, u⟩)))⟩
  have hw : 0 ≤ wd g s := by lia
  exact ⟨nt (wd g s) + 1, L _ 0 1 (by decide) (by rw [nI_nt0 hw]; lia) hw (Or.inl ⟨rfl, fun p p0 p1 => by lia⟩)⟩
/-- a line of which all behind the place lo have moved down by one -/
def gJp (g : Gm) (s lo : Int32) : Gm := fun c i => if c = 129 ∧ nt (40 * s + lo) < i ∧ i ≤ nt (40 * s + g 128 (nt s)) then g 129 (i - 1) else if c = 130 ∧ nt (40 * s + lo) < i ∧ i ≤ nt (40 * s + g 128 (nt s)) then 0 else g c i
theorem jp_0 {s : Int32} : gJp g s (g 128 (nt s)) = g := by
  funext c i
  unfold gJp
  rw [if_neg (by omega), if_neg (by omega)]
theorem jp_step {s lo : Int32} (h0 : 0 ≤ s) (h1 : s < 30) (l0 : 1 ≤ lo) (l1 : lo ≤ g 128 (nt s)) (l2 : g 128 (nt s) ≤ 40) : gu (gu (gJp g s lo) 129 (nt (40 * s + lo)) (g 129 (nt (40 * s + lo - 1)))) 130 (nt (40 * s + lo)) 0 = gJp g s (lo - 1) := by
  have e1 : nt (40 * s + lo) = nt (40 * s + (lo - 1)) + 1 := by
    have := ntS (x := 40 * s + (lo - 1)) (by lia) (by lia)
    rw [show 40 * s + (lo - 1) + 1 = 40 * s + lo by lia] at this
    exact this
  have e2 : nt (40 * s + lo - 1) = nt (40 * s + (lo - 1)) := by rw [show 40 * s + lo - 1 = 40 * s + (lo - 1) by lia]
  have e3 : nt (40 * s + lo) ≤ nt (40 * s + g 128 (nt s)) := (ntle (by lia) (by lia)).mpr (by lia)
  rw [e2]
  funext c i
  by_cases a : c = 130 ∧ i = nt (40 * s + lo)
  · rw [a.1, a.2, gu_at]
    unfold gJp
    rw [if_neg (by omega), if_pos (by omega)]
  · rw [gu_ne (by by_cases z : c = 130; exact Or.inr (fun u => a ⟨z, u⟩); exact Or.inl z)]
    by_cases b : c = 129 ∧ i = nt (40 * s + lo)
    · rw [b.1, b.2, gu_at]
      unfold gJp
      rw [if_pos (by omega), e1, Nat.add_sub_cancel]
    · rw [gu_ne (by by_cases z : c = 129; exact Or.inr (fun u => b ⟨z, u⟩); exact Or.inl z)]
      unfold gJp
      by_cases d : c = 129 ∧ nt (40 * s + lo) < i ∧ i ≤ nt (40 * s + g 128 (nt s))
      · rw [if_pos d, if_pos (by omega)]
      · rw [if_neg d]
        by_cases f : c = 130 ∧ nt (40 * s + lo) < i ∧ i ≤ nt (40 * s + g 128 (nt s))
        · rw [if_pos f, if_neg (by omega), if_pos (by omega)]
        · rw [if_neg f, if_neg (by omega), if_neg (by omega)]
theorem jp_end {s age m : Int32} : gu (gu (gu (gJp g s (jAt g s m)) 129 (nt (40 * s + jAt g s m)) age) 130 (nt (40 * s + jAt g s m)) m) 128 (nt s) (g 128 (nt s) + 1) = gJoin g s age m := by
  funext c i
  unfold gJoin
  by_cases a : c = 128 ∧ i = nt s
  · rw [if_pos a, a.1, a.2, gu_at]
  · rw [if_neg a, gu_ne (by by_cases z : c = 128; exact Or.inr (fun u => a ⟨z, u⟩); exact Or.inl z)]
    by_cases b : c = 130 ∧ i = nt (40 * s + jAt g s m)
    · rw [if_neg (by omega), if_pos b, b.1, b.2, gu_at]
    · rw [gu_ne (by by_cases z : c = 130; exact Or.inr (fun u => b ⟨z, u⟩); exact Or.inl z)]
      by_cases d : c = 129 ∧ i = nt (40 * s + jAt g s m)
      · rw [if_pos d, d.1, d.2, gu_at]
      · rw [gu_ne (by by_cases z : c = 129; exact Or.inr (fun u => d ⟨z, u⟩); exact Or.inl z), if_neg d, if_neg b]
        rfl
theorem mod_join {s age m : Int32} (hm : m = 0 ∨ m = 1) (hM : mC S g) (hI : Iv g) (hQ : mPost [3, 1, 2] (rJoin g s age m) S Q) : w_X8_join s age m S Q := by
  have hn := i_n hI
  unfold w_X8_join w_X8_join_49 w_X8_join_50 w_X8_join_86
  have no3 : ¬ isX g 321 s → mPost [3, 1, 2] (3, 0, g) S Q := fun r => mP_of hQ (by unfold rJoin; rw [if_neg r])
  refine isShow_ok hM hn (fun r1 => kb1 ⟨v30 hn r1.1 r1.2, ?_⟩) (fun r1 => kb0 (isShow_ok hM hn (fun r => absurd r r1) (fun _ => kb0 (mFail (no3 r1) hM (by decide) rfl (by decide)))))
  have no1 : ¬ inr age 0 120 → mPost [3, 1, 2] (1, 0, g) S Q := fun z => mP_of hQ (by unfold rJoin; rw [if_pos r1, if_neg z])
  have no2 : inr age 0 120 → ¬ (g 125 (nt s) = 0 ∧ full g s ∧ see g s age ∧ g 128 (nt s) < 40) → mPost [3, 1, 2] (2, 0, g) S Q := fun r z => mP_of hQ (by unfold rJoin; rw [if_pos r1, if_pos r, if_neg z])
  rw [hM _ _ (mcA : mc 125)]
  refine ⟨fun r4 => fullM_ok hM hI.1 r1.1 r1.2 (fun r5 => kb1 (canSee_ok hM hI.1 r1.1 r1.2 (fun r6 => kb1 ⟨v30 hn r1.1 r1.2, ?_⟩) (fun r6 => kb0 (isShow_ok hM hn (fun _ => kb1 (isAge_ok (fun r2 => kb1 (b0 (mFail (no2 r2 (fun z => r6 z.2.2.1)) hM (by decide) rfl (by decide)))) (fun r2 => kb0 (mFail (no1 r2) hM (by decide) rfl (by decide))))) (fun r => absurd r1 r))))) (fun r5 => kb0 (isShow_ok hM hn (fun _ => kb1 (isAge_ok (fun r2 => kb1 (b0 (mFail (no2 r2 (fun z => r5 z.2.1)) hM (by decide) rfl (by decide)))) (fun r2 => kb0 (mFail (no1 r2) hM (by decide) rfl (by decide))))) (fun r => absurd r1 r))), fun r4 => isShow_ok hM hn (fun _ => kb1 (isAge_ok (fun r2 => kb1 (b0 (mFail (no2 r2 (fun z => r4 z.1)) hM (by decide) rfl (by decide)))) (fun r2 => kb0 (mFail (no1 r2) hM (by decide) rfl (by decide))))) (fun r => absurd r1 r)⟩
  rw [hM _ _ (mcA : mc 128)]
  refine ⟨fun r7 => isShow_ok hM hn (fun _ => kb1 (isAge_ok (fun r2 => kb1 (b0 (mFail (no2 r2 (fun z => by have := z.2.2.2; lia)) hM (by decide) rfl (by decide)))) (fun r2 => kb0 (mFail (no1 r2) hM (by decide) rfl (by decide))))) (fun r => absurd r1 r), fun r7 => isShow_ok hM hn (fun _ => kb1 (isAge_ok (fun r2 => kb1 (b1 (mGo ?_))) (fun r2 => kb0 (mFail (no1 r2) hM (by decide) rfl (by decide))))) (fun r => absurd r1 r)⟩
  have hQ := mP_of hQ (show rJoin g s age m = (0, jAt g s m, gJoin g s age m) by unfold rJoin; rw [if_pos r1, if_pos r2, if_pos ⟨r4, r5, r6, by lia⟩])
  obtain ⟨s0, s1⟩ := r1
  have vs := v30 hn s0 s1
  obtain ⟨-, -, -, -, -, -, -, -, -, -, -, b12, -⟩ := id hn
  obtain ⟨-, -, -, -, -, -, -, -, p0, p1⟩ := i_s hI s s0 s1
  have h0 := mS0 hM
  rintro v9 rfl
  refine ⟨vs, ?_⟩
  intro v10 e10
  have e10 : v10 = g 128 (nt s) := e10.trans (h0.1 _ _ mcA)
  subst e10
  have fin : ∀ (lo : Int32) (T : Sg), lo = jAt g s m → 0 ≤ lo → lo < 40 → mS S T (gJp g s lo) → w_X8_join_171 Q s age m (40 * s) lo T := fun lo T e l0 l1 k => by
    have vp : vp_in (40 * s + lo) 1200 := vp_of (by lia) (by show _ < 1200; lia) (by decide)
    unfold w_X8_join_171
    refine ⟨vp, stm k mcA rfl rfl fun T1 k1 => ⟨vp, hm, stm k1 mcA rfl rfl fun T2 k2 => ⟨vs, vs, stm k2 mcA rfl (by rw [k2.1 _ _ (mcA : mc 128)]) fun T3 k3 => ?_⟩⟩⟩
    have e8 : gu (gu (gJp g s lo) 129 (nt (40 * s + lo)) age) 130 (nt (40 * s + lo)) m 128 (nt s) + 1 = g 128 (nt s) + 1 := rfl
    rw [e8] at k3
    subst e
    rw [jp_end] at k3
    exact mEnd hQ k3 rfl
  have L : ∀ (d : Nat) (lo : Int32) (T : Sg), d ≤ 100 → lo = nI d → lo ≤ g 128 (nt s) → mS S T (gJp g s lo) → (m = 0 → lo = g 128 (nt s)) → (¬ m = 0 → jAt g s m = mem g s (nt lo)) → w_X8_join_108 Q (d + 1) s age m (40 * s) lo T := by
    intro d
    induction d with
    | zero =>
      intro lo T hd l0 l1 k k1 k2
      have l0 : lo = 0 := l0
      rw [w_X8_join_108]
      refine ⟨fun z => fin lo T (by rw [k1 z]; unfold jAt; rw [if_pos z]) (by lia) (by lia) k, fun z => ⟨fun _ => fin lo T (by rw [k2 z, l0]; rfl) (by lia) (by lia) k, fun y => by lia⟩⟩
    | succ d ih =>
      intro lo T hd l0 l1 k k1 k2
      have e5 : (nI d).toInt = d := nI_toInt (by omega)
      have e6 : 0 ≤ nI d := by rw [z_le, e5]; exact Int.natCast_nonneg d
      have e7 : nI d ≤ 1000 := by rw [z_le, e5]; show (d : Int) ≤ 1000; omega
      rw [nI1] at l0
      have vp : vp_in (40 * s + lo) 1200 := vp_of (by lia) (by show _ < 1200; lia) (by decide)
      have vp2 : vp_in (40 * s + lo - 1) 1200 := vp_of (by lia) (by show _ < 1200; lia) (by decide)
      have el : nt lo = d + 1 := by
        have : 0 ≤ lo := by lia
        have h9 := nt_cast this
        rw [l0, z_add (by rw [e5]; show _ ≤ (d : Int) + 1; omega) (by rw [e5]; show (d : Int) + 1 ≤ _; omega), e5] at h9
        have z1 : (1 : Int32).toInt = 1 := rfl
        rw [l0]
        omega
      have lt : nt (40 * s + lo - 1) < nt (40 * s + lo) := (ntlt (by lia) (by lia)).mpr (by lia)
      have r9 : ∀ c, gJp g s lo c (nt (40 * s + lo - 1)) = g c (nt (40 * s + lo - 1)) := fun c => by
        unfold gJp
        rw [if_neg (by omega), if_neg (by omega)]
      have em : mem g s (nt lo) = if g 130 (nt (40 * s + lo - 1)) = 0 then mem g s d else lo := by
        rw [el]
        show (if g 130 (nt (40 * s + nI d)) = 0 then mem g s d else nI (d + 1)) = _
        rw [show 40 * s + lo - 1 = 40 * s + nI d by lia, nI1, ← l0]
      rw [w_X8_join_108]
      refine ⟨fun z => fin lo T (by rw [k1 z]; unfold jAt; rw [if_pos z]) (by lia) (by lia) k, fun z => ⟨fun y => by lia, fun y => ⟨vp2, ?_⟩⟩⟩
      rw [k.1 _ _ (mcA : mc 130), k.1 _ _ (mcA : mc 129), r9, r9]
      refine ⟨fun u => ⟨vp2, vp, stm k mcA rfl rfl fun T1 t1 => ⟨vp, Or.inl rfl, stm t1 mcA rfl rfl fun T2 t2 => ?_⟩⟩, fun u => fin lo T (by rw [k2 z, em, if_neg u]) (by lia) (by lia) k⟩
      rw [jp_step s0 (by lia) (by lia) l1 p1] at t2
      rw [show lo + (-1) = lo - 1 by lia]
      refine ih (lo - 1) T2 (by omega) (by lia) (by lia) t2 (fun z2 => absurd z2 z) (fun _ => ?_)
      rw [k2 z, em, if_pos u]
      have : nt (lo - 1) = d := by
        have h9 : lo - 1 = nI d := by lia
        rw [h9]
        exact nt_nI (by omega)
      rw [this]
  have hP := nt_le (n := 40) (by decide) (show g 128 (nt s) ≤ nI 40 from p1)
  refine ⟨nt (g 128 (nt s)) + 1, L _ (g 128 (nt s)) _ (by omega) (nI_nt0 p0).symm (by lia) (by rw [jp_0]; exact h0) (fun _ => rfl) (fun z => ?_)⟩
  unfold jAt
  rw [if_neg z]
end JM
