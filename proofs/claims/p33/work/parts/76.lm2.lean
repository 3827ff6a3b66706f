/-! frees: a place that becomes free, and the line -/
section L3
variable {g g1 : Gm} {S S0 T : Sg} {C : Nat} {Q : Nat → Int32 → Sg → Prop}
/-- only the lines' array has changed -/
theorem LX_line {s : Int32} (hT : ∀ c i, c ≠ 111 → T.1 c i = S.1 c i) (h : LX S g) (hl : Ll T (gShift g s)) : LX T (gShift g s) := by
  obtain ⟨⟨a0, a1, a2, a3, a4, a5, a6, a7⟩, ⟨b1, b2⟩, ⟨c1, c2⟩, d1, e1, f1, g1, -⟩ := h
  have k : ∀ c i, c < 111 ∨ 111 < c → T.1 c i = S.1 c i := fun c i q => hT c i (by omega)
  refine ⟨⟨(k _ _ (by omega)).trans a0, (k _ _ (by omega)).trans a1, (k _ _ (by omega)).trans a2, (k _ _ (by omega)).trans a3, (k _ _ (by omega)).trans a4, (k _ _ (by omega)).trans a5, (k _ _ (by omega)).trans a6, (k _ _ (by omega)).trans a7⟩, ⟨fun i x y => ?_, fun i x y => ?_⟩, ⟨fun i x y => ?_, fun i x y => ?_⟩, fun i x y => ?_, fun i x y => ?_, fun i x y => ?_, fun i x y => ?_, hl⟩
  · rw [k _ _ (by omega), k _ _ (by omega)]; exact b1 i x y
  · rw [k _ _ (by omega)]; exact b2 i x y
  · rw [k _ _ (by omega), k _ _ (by omega), k _ _ (by omega), k _ _ (by omega), k _ _ (by omega)]; exact c1 i x y
  · rw [k _ _ (by omega), k _ _ (by omega), k _ _ (by omega)]; exact c2 i x y
  · rw [k _ _ (by omega), k _ _ (by omega), k _ _ (by omega)]; exact d1 i x y
  · rw [k _ _ (by omega), k _ _ (by omega)]; exact e1 i x y
  · rw [k _ _ (by omega), k _ _ (by omega)]; exact f1 i x y
  · rw [k _ _ (by omega), k _ _ (by omega)]; exact g1 i x y
/-- the line of s moved up in its first x places -/
def JL (S : Sg) (s x : Int32) (T : Sg) : Prop := (∀ c i, c ≠ 111 → T.1 c i = S.1 c i) ∧ T.2 = S.2 ∧ ∀ y n : Int32, 0 ≤ y → y < 5 → 0 ≤ n → n < 10 → T.1 111 (nt (10 * y + n)) = if y = s ∧ n < x then (if n = 9 then 0 else S.1 111 (nt (10 * s + (n + 1)))) else S.1 111 (nt (10 * y + n))
theorem Ll_shift {s : Int32} (h : LX S g) (hI : Ia g) (hB : LB C g) (s0 : 0 ≤ s) (s1 : s < g 321 0) (hp : g 128 (nt s) ≠ 0) (hT : JL S s 10 T) : Ll T (gShift g s) := by
  have b4 := (lb_1 hB).2.2.2.1
  obtain ⟨l9, -⟩ := lb_4 hB s s0 s1
  obtain ⟨-, -, -, -, -, -, -, -, l0, l1⟩ := ia_s hI s s0 s1
  have hp2 : 1 ≤ g 128 (nt s) ∧ g 128 (nt s) ≤ 40 := by constructor <;> lia
  intro y n y0 y1 n0 n1
  rw [hT.2.2 y n y0 y1 n0 n1, shift_at s0 (by lia) y0 (by lia) n0 (by lia) hp2 (Or.inl rfl), shift_at s0 (by lia) y0 (by lia) n0 (by lia) hp2 (Or.inr rfl), shift_8]
  by_cases e : y = s
  · subst e
    rw [if_pos ⟨rfl, n1⟩, if_pos rfl]
    by_cases e9 : n = 9
    · rw [if_pos e9, if_neg (by lia)]
    · rw [if_neg e9, lx_l h y (n + 1) y0 y1 (by lia) (by lia)]
      by_cases e2 : n < g 128 (nt y) - 1
      · rw [if_pos (by lia), if_pos e2, if_pos ⟨rfl, e2⟩, if_pos ⟨rfl, e2⟩]
      · rw [if_neg (by lia), if_neg e2]
  · have ne : ¬ nt y = nt s := fun z => e ((nt_inj y0 s0).mp z)
    have w1 : ¬ (y = s ∧ n < 10) := fun z => e z.1
    have w2 : ¬ (y = s ∧ n < g 128 (nt s) - 1) := fun z => e z.1
    rw [if_neg w1, if_neg ne, if_neg w2, if_neg w2]
    exact lx_l h y n y0 y1 n0 n1
theorem Lfrees {s p : Int32} (h : LX S g) (hc : clf S0 S) (ha : La0 S g s p) (hI : Ia g) (hB : LB C g) (hC : C ≤ 511) (s0 : 0 ≤ s) (s1 : s < g 321 0) (p0 : 0 ≤ p) (p1 : p < 12) (hf : fre g s p) (q : ∀ T, lS S0 T (gFrees g s p).2 → Q 0 (gFrees g s p).1 T) : w_L_frees s p S Q := by
  have n3 := n336 (ia_n hI)
  have b4 := (lb_1 hB).2.2.2.1
  obtain ⟨l9, -⟩ := lb_4 hB s s0 s1
  obtain ⟨-, -, -, -, -, -, -, -, l0, l1⟩ := ia_s hI s s0 s1
  have n63 : g 336 0 ≤ 63 := by
    have h5 := lb_5 hB
    unfold PB at h5
    have h6 := nt_cast n3.1
    have h7 : (63 : Int32).toInt = 63 := rfl
    rw [z_le]; omega
  have vs : vp_in (12 * s + p) 60 := va (by lia) (by show _ < 60; lia)
  unfold w_L_frees
  refine ⟨vs, ?_⟩
  intro S5 e5
  have h5 : LX S5 g := by subst e5; exact ⟨h.1, h.2.1, h.2.2.1, h.2.2.2.1, h.2.2.2.2.1, h.2.2.2.2.2.1, h.2.2.2.2.2.2.1, h.2.2.2.2.2.2.2⟩
  have hc5 : clf S0 S5 := by subst e5; exact clf_l hc
  have ha5 : La S5 g := by
    subst e5
    intro x k x0 x1 k0 k1
    by_cases z : x = s ∧ k = p
    · obtain ⟨rfl, rfl⟩ := z
      rw [su_at, hf.1, hf.2]; rfl
    · rw [su_ne (Or.inr (fun e => z ((a_inj x0 x1 k0 k1 s0 (by lia) p0 p1).mp e)))]
      exact ha x k x0 x1 k0 k1 z
  clear e5
  refine ⟨va (by lia) (by show _ < 50; lia), ?_⟩
  have e10 : (10 : Int32) * s = 10 * s + 0 := by lia
  intro v6 e6
  rw [e10] at e6
  refine ⟨fun z => ?_, fun z => ?_⟩
  · have hz : g 128 (nt s) = 0 := by
      by_cases y : 0 < g 128 (nt s)
      · exfalso
        obtain ⟨k1, k2, k3, k4⟩ := l_at h5 hI hB s0 s1 (by decide) y
        rw [← e6, z] at k1
        rcases k4 with k4 | k4 <;> lia
      · lia
    rw [show gFrees g s p = (-1, g) from if_pos (Or.inl hz)] at q
    exact q S5 ⟨⟨h5, ha5⟩, hc5⟩
  · have hz : 0 < g 128 (nt s) := by
      by_cases y : 0 < g 128 (nt s)
      · exact y
      · exact absurd (e6.trans (l_no h5 s0 (by lia) (by decide) (by decide) (by lia))) z
    have hz0 : g 128 (nt s) ≠ 0 := fun y => by rw [y] at hz; exact absurd hz (by decide)
    obtain ⟨k1, k2, k3, k4⟩ := l_at h5 hI hB s0 s1 (by decide) hz
    rw [← e6] at k1
    rw [show gFrees g s p = (g 336 0, gSells (gShift g s) s p (g 129 (nt (40 * s)))) from if_neg (fun y => y.elim hz0 (fun y => by lia))] at q
    have e40 : (40 : Int32) * s + 0 = 40 * s := by lia
    rw [e40] at k1 k2 k3 k4
    have ev : v6 - 1 - (v6 - 1) / 128 * 128 = g 129 (nt (40 * s)) := by
      rw [k1, show 1 + (g 129 (nt (40 * s)) + 128 * g 130 (nt (40 * s))) - 1 = g 129 (nt (40 * s)) + 128 * g 130 (nt (40 * s)) by lia]
      exact (z_qr (m := 128) k2 (by lia) (by rcases k4 with k4 | k4 <;> rw [k4] <;> decide) (by rcases k4 with k4 | k4 <;> rw [k4] <;> decide) (by decide)).2.1
    have fin : ∀ T, JL S5 s 10 T → w_L_sells s p (v6 - 1 - (v6 - 1) / 128 * 128) T (fun k4 v3 S2 => (k4 = 0 → Q 0 v3 S2) ∧ (¬ k4 = 0 → Q k4 0 S2)) := fun T hT => by
      have hl := Ll_shift h5 hI hB s0 s1 hz0 hT
      have hX := LX_line hT.1 h5 hl
      have b1 := lb_1 hB
      rw [ev]
      refine Lsells (S0 := S0) (g := gShift g s) hX ⟨fun c i hn => ?_, hT.2.1.trans hc5.2⟩ (fun x k x0 x1 k0 k1 _ => ?_) (Ia_shift hI s0 s1 hz0) b1 (by exact n63) s0 (by exact s1) p0 p1 (fun U hU => kz (q U hU))
      · rw [hT.1 c i (fun e => hn (Or.inl (by unfold mc; omega)))]; exact hc5.1 c i hn
      · rw [hT.1 _ _ (by decide)]; exact ha5 x k x0 x1 k0 k1
    have L : ∀ (d : Nat) (x : Int32) (T : Sg), 0 ≤ x → x + nI d = 10 → x ≤ 10 → JL S5 s x T → w_L_frees_31 Q (d + 1) s p v6 x T := by
      intro d
      induction d with
      | zero =>
        intro x T x0 x1 x2 hT
        have e : x = 10 := by rw [← x1]; show x = x + 0; lia
        subst e
        rw [w_L_frees_31]
        exact ⟨fun _ => fin T hT, fun y => absurd (by decide) y⟩
      | succ d ih =>
        intro x T x0 x1 x2 hT
        rw [nI1] at x1
        rw [w_L_frees_31]
        refine ⟨fun y => ?_, fun y => ?_⟩
        · have e : x = 10 := by lia
          subst e
          exact fin T hT
        have go : ∀ v : Int32, v = (if x = 9 then 0 else S5.1 111 (nt (10 * s + (x + 1)))) → w_L_frees_72 (fun x7 x8 x9 x10 S => w_L_frees_31 Q (d + 1) x7 x8 x9 x10 S) Q s p v6 x v (10 * s + x) T := fun v ev => by
          unfold w_L_frees_72
          refine ⟨va (by lia) (by show _ < 50; lia), ?_⟩
          rintro S1 rfl
          refine ih (x + 1) _ (by lia) (by lia) (by lia) ⟨fun c i hn => ?_, hT.2.1, fun z n z0 z1 n0 n1 => ?_⟩
          · rw [su_ne (Or.inl hn)]; exact hT.1 c i hn
          · by_cases e : z = s ∧ n = x
            · obtain ⟨rfl, rfl⟩ := e
              rw [su_at, if_pos ⟨rfl, by lia⟩]
              exact ev
            · rw [su_ne (Or.inr (fun e9 => e ((l_inj z0 z1 n0 n1 s0 (by lia) x0 (by lia)).mp e9))), hT.2.2 z n z0 z1 n0 n1]
              by_cases e2 : z = s ∧ n < x
              · have w1 : z = s ∧ n < x + 1 := ⟨e2.1, by lia⟩
                rw [if_pos e2, if_pos w1]
              · have w1 : ¬ (z = s ∧ n < x + 1) := fun e3 => e2 ⟨e3.1, (i32_lt1 e3.2 x0 (by lia)).elim id (fun e4 => absurd ⟨e3.1, e4⟩ e)⟩
                rw [if_neg e2, if_neg w1]
        refine ⟨fun e9 => go 0 (by rw [if_pos e9]), fun e9 => ⟨va (by lia) (by show _ < 50; lia), go _ ?_⟩⟩
        rw [if_neg e9, show 10 * s + x + 1 = 10 * s + (x + 1) by lia, hT.2.2 s (x + 1) s0 (by lia) (by lia) (by lia), if_neg (fun e => by have := e.2; lia)]
    exact ⟨11, L 10 0 S5 (by decide) (by decide) (by decide) ⟨fun _ _ _ => rfl, rfl, fun y n y0 y1 n0 n1 => by rw [if_neg (fun e => by have := e.2; lia)]⟩⟩
end L3
