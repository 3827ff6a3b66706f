/-! the law's loop; a new object, and arrays of zeros -/
def g0 : Gm := fun c i => if c = 301 ∧ i = 0 then 10 else if (c = 126 ∨ c = 127) ∧ i < 1440 then -1 else 0
theorem g0_z {c i : Nat} (h1 : c ≠ 301) (h2 : c ≠ 126) (h3 : c ≠ 127) : g0 c i = 0 := by
  unfold g0
  rw [if_neg (fun q => h1 q.1), if_neg (fun q => q.1.elim h2 h3)]
theorem g0_p {c i : Nat} (h : c = 126 ∨ c = 127) (hi : i < 1440) : g0 c i = -1 := by
  unfold g0
  rw [if_neg (fun q => by omega), if_pos ⟨h, hi⟩]
theorem Iv_0 : Iv g0 := by
  have e302 : g0 302 0 = 0 := g0_z (by decide) (by decide) (by decide)
  have e307 : g0 307 0 = 0 := g0_z (by decide) (by decide) (by decide)
  have e316 : g0 316 0 = 0 := g0_z (by decide) (by decide) (by decide)
  have e321 : g0 321 0 = 0 := g0_z (by decide) (by decide) (by decide)
  have e331 : g0 331 0 = 0 := g0_z (by decide) (by decide) (by decide)
  have e336 : g0 336 0 = 0 := g0_z (by decide) (by decide) (by decide)
  have e300 : g0 300 0 = 0 := g0_z (by decide) (by decide) (by decide)
  have e301 : g0 301 0 = 10 := rfl
  refine ⟨⟨?_, ?_, ?_, ?_, ?_, ?_, ?_, ?_, ?_, ?_, ?_, ?_, ?_, ?_⟩, ?_, ?_⟩
  · unfold I_n
    rw [e300, e301, e302, e307, e316, e321, e331, e336]
    decide
  · intro i i0 i1; rw [e302] at i1; lia
  · intro i i0 i1; exact g0_z (by decide) (by decide) (by decide)
  · intro i i0 i1; rw [e307] at i1; lia
  · intro i i0 i1; exact ⟨g0_z (by decide) (by decide) (by decide), g0_z (by decide) (by decide) (by decide), g0_z (by decide) (by decide) (by decide)⟩
  · intro i i0 i1; rw [e321] at i1; lia
  · intro i i0 i1; exact ⟨g0_z (by decide) (by decide) (by decide), g0_z (by decide) (by decide) (by decide)⟩
  · intro i j i0 i1; rw [e321] at i1; lia
  · intro s p s0 s1 p0 p1
    have h : nt (48 * s + p) < 1440 := by
      have := (ntlt (x := 48 * s + p) (y := 1440) (by lia) (by decide)).mpr (by lia)
      exact this
    exact ⟨Or.inl (g0_p (Or.inl rfl) h), Or.inl (g0_p (Or.inr rfl) h)⟩
  · intro i i0 i1; rw [e331] at i1; lia
  · intro i i0 i1; exact g0_z (by decide) (by decide) (by decide)
  · intro i i0 i1; rw [e336] at i1; lia
  · intro i i0 i1; exact g0_z (by decide) (by decide) (by decide)
  · intro i i0 i1; rw [e321] at i1; lia
  · intro i i0 i1; rw [e331] at i1; lia
  · intro i i0 i1; rw [e321] at i1; lia
theorem LR_0 {S : Sg} (h : ∀ c i, 103 ≤ c → c ≤ 112 → S.1 c i = if c = 112 ∧ i = nt 1 then 10 else 0) : LR S g0 := by
  have z : ∀ c i, 103 ≤ c → c ≤ 111 → S.1 c i = 0 := fun c i h1 h2 => by rw [h c i h1 (by omega), if_neg (by omega)]
  have y : ∀ i, i ≠ nt 1 → S.1 112 i = 0 := fun i hi => by rw [h 112 i (by decide) (by decide), if_neg (fun q => hi q.2)]
  have gz : ∀ {c i : Nat}, c ≠ 301 → c ≠ 126 → c ≠ 127 → g0 c i = 0 := fun h1 h2 h3 => g0_z h1 h2 h3
  have e1 : S.1 112 (nt 1) = 10 := by rw [h 112 _ (by decide) (by decide), if_pos ⟨rfl, rfl⟩]
  refine ⟨⟨⟨?_, e1, ?_, ?_, ?_, ?_, ?_, ?_⟩, ⟨fun i x w => ?_, fun i x w => ?_⟩, ⟨fun i x w => ?_, fun i x w => ?_⟩, fun i x w => ?_, fun i x w => ?_, fun i x w => ?_, fun i x w => ?_, fun s n a b c d => ?_⟩, fun s p a b c d => ?_⟩
  · rw [y _ (by decide), gz (by decide) (by decide) (by decide)]
  · rw [y _ (by decide), gz (by decide) (by decide) (by decide)]
  · rw [y _ (by decide), gz (by decide) (by decide) (by decide)]
  · rw [y _ (by decide), gz (by decide) (by decide) (by decide)]
  · rw [y _ (by decide), gz (by decide) (by decide) (by decide)]
  · rw [y _ (by decide), gz (by decide) (by decide) (by decide)]
  · rw [y _ (by decide), gz (by decide) (by decide) (by decide)]
  · rw [gz (by decide) (by decide) (by decide)] at w; exfalso; lia
  · rw [z _ _ (by decide) (by decide), gz (by decide) (by decide) (by decide)]
  · rw [gz (by decide) (by decide) (by decide)] at w; exfalso; lia
  · rw [z _ _ (by decide) (by decide), z _ _ (by decide) (by decide), z _ _ (by decide) (by decide), gz (by decide) (by decide) (by decide), gz (by decide) (by decide) (by decide), gz (by decide) (by decide) (by decide)]
    exact ⟨rfl, rfl, rfl⟩
  · rw [gz (by decide) (by decide) (by decide)] at w; exfalso; lia
  · rw [gz (by decide) (by decide) (by decide)] at w; exfalso; lia
  · rw [gz (by decide) (by decide) (by decide)] at w; exfalso; lia
  · rw [gz (by decide) (by decide) (by decide)] at w; exfalso; lia
  · rw [z _ _ (by decide) (by decide), gz (by decide) (by decide) (by decide), if_neg (by lia)]
  · have hp : nt (48 * s + p) < 1440 := by
      have := (ntlt (x := 48 * s + p) (y := 1440) (by lia) (by decide)).mpr (by lia)
      exact this
    rw [z _ _ (by decide) (by decide), g0_p (Or.inl rfl) hp, g0_p (Or.inr rfl) hp]
    rfl
theorem LB_0 : LB 0 g0 := by
  have gz : ∀ {c i : Nat}, c ≠ 301 → c ≠ 126 → c ≠ 127 → g0 c i = 0 := fun h1 h2 h3 => g0_z h1 h2 h3
  refine ⟨?_, fun i x w => ?_, fun i x w => ?_, fun i x w => ?_, ?_, fun i x w => ?_⟩
  · unfold B1
    rw [gz (c := 302) (by decide) (by decide) (by decide), gz (c := 307) (by decide) (by decide) (by decide), gz (c := 316) (by decide) (by decide) (by decide), gz (c := 321) (by decide) (by decide) (by decide), gz (c := 331) (by decide) (by decide) (by decide)]
    decide
  · rw [gz (by decide) (by decide) (by decide)] at w; exfalso; lia
  · rw [gz (by decide) (by decide) (by decide)] at w; exfalso; lia
  · rw [gz (by decide) (by decide) (by decide)] at w; exfalso; lia
  · unfold PB
    rw [gz (c := 336) (by decide) (by decide) (by decide), gz (c := 331) (by decide) (by decide) (by decide), gz (c := 321) (by decide) (by decide) (by decide), show nt 0 = 0 by decide]
    exact Nat.le_refl 0
  · rw [gz (by decide) (by decide) (by decide)] at w; exfalso; lia
theorem RA_0 {S : Sg} (h1 : ∀ c i, 103 ≤ c → c ≤ 112 → S.1 c i = if c = 112 ∧ i = nt 1 then 10 else 0) (h2 : ∀ q ∈ scT, S.1 q.1 q.2.1 = g0 q.2.2 0) (h3 : ∀ j, j < 6 → S.1 13 j = nE ∨ ¬ S.1 13 j < 0) (h4 : S.2.1 ≤ 100) (h5 : S.2.2 ≤ 20000) : RA 0 0 g0 S := by
  refine ⟨⟨?_, ?_, h2, h3, ?_, ?_, ?_, ?_⟩, Iv_0, LR_0 h1, LB_0, by constructor <;> omega⟩
  · intro q hq i i0 i1
    have z : ∀ q ∈ colT, q.2.2 ≠ 301 ∧ q.2.2 ≠ 126 ∧ q.2.2 ≠ 127 := by decide
    rw [g0_z (z q hq).1 (z q hq).2.1 (z q hq).2.2] at i1; lia
  · intro q hq i i0 i1
    have z : ∀ q ∈ idT, q.2 ≠ 301 ∧ q.2 ≠ 126 ∧ q.2 ≠ 127 := by decide
    rw [g0_z (z q hq).1 (z q hq).2.1 (z q hq).2.2] at i1; lia
  · intro s s0 s1; rw [g0_z (by decide) (by decide) (by decide)] at s1; lia
  · intro s s0 s1; rw [g0_z (by decide) (by decide) (by decide)] at s1; lia
  · intro s s0 s1; rw [g0_z (by decide) (by decide) (by decide)] at s1; lia
  · intro s p s0 s1; rw [g0_z (by decide) (by decide) (by decide)] at s1; lia
/-- before the law's turn X: k counted turns, D tickets sold by hand -/
def RLx (X : Nat) (S : Sg) : Prop := ∃ (g : Gm) (D n : Nat), RA n (4 * (X - 11) + 7 * D) g S ∧ D ≤ 44 ∧ D ≤ nt (g 336 0) ∧ nt (g 300 0) ≤ 500 * (X - 11) ∧ n ≤ 10 + 160 * X
section LO
variable {S : Sg} {Q : Nat → Int32 → Sg → Prop}
theorem RL_so {X n D : Nat} {g : Gm} {a b : Int32} {T : Sg} {P : Int32 → Sg → Prop} {R : Nat → Prop} (hX : X < 60) (h : RA n (4 * (X + 1 - 11) + 7 * D) g T) (d1 : D ≤ 44) (d2 : D ≤ nt (g 336 0)) (h3 : nt (g 300 0) ≤ 500 * (X + 1 - 11)) (hn : n ≤ 11 + 160 * X) (p7 : 0 ≤ a) (p8 : 0 ≤ b) (q : ∀ U, RLx (X + 1) U → P 1 U) : w_L_isSo a b T (fun k3 v2 S1 => (k3 = 0 → P v2 S1) ∧ (¬ k3 = 0 → R k3)) := by
  obtain ⟨m0, m1, -⟩ := i_n h.2.1
  have h9 : g 300 0 ≤ 90000 := by
    have e := nt_cast m0
    have e9 : (90000 : Int32).toInt = 90000 := rfl
    rw [z_le]; omega
  exact T_so (M := n + 150) h (by omega) (Nat.le_refl _) (by omega) h9 p7 p8 (fun U hU => kz (q U ⟨g, D, n + 150, hU, d1, d2, h3, by omega⟩))
theorem law_loop (hQ : ∀ S, Q 0 1 S) : ∀ (d X : Nat) (x : Int32) (S : Sg), X + d = 60 → x = nI X → RLx X S → w_L_law_177 Q (d + 1) 1 x S := by
  intro d
  induction d with
  | zero =>
    intro X x S hd ex hR
    have e60 : x = 60 := by rw [ex, show X = 60 by omega]; rfl
    rw [w_L_law_177]
    exact ⟨fun _ => hQ S, fun z => absurd (by lia) z⟩
  | succ d ih =>
    intro X x S hd ex hR
    obtain ⟨g, D, n, h, d1, d2, h3, hn⟩ := hR
    have e5 : (nI X).toInt = X := nI_toInt (by omega)
    have x0 : 0 ≤ x := by rw [ex, z_le, e5]; exact Int.natCast_nonneg X
    have x6 : x < 60 := by rw [ex, z_lt, e5]; show (X : Int) < 60; omega
    obtain ⟨m0, m1, -⟩ := i_n h.2.1
    have n3 := n336 (i_n h.2.1)
    have c300 := nt_cast m0
    have ex1 : x + 1 = nI (X + 1) := by rw [nI1, ex]
    have h9 : g 300 0 ≤ 90000 := by
      have e9 : (90000 : Int32).toInt = 90000 := rfl
      rw [z_le]; omega
    -- what the class says, and on
    have so : ∀ (g1 : Gm) (D1 m : Nat) (T : Sg) (a b : Int32), RA m (4 * (X + 1 - 11) + 7 * D1) g1 T → D1 ≤ 44 → D1 ≤ nt (g1 336 0) → nt (g1 300 0) ≤ 500 * (X + 1 - 11) → m ≤ 11 + 160 * X → 0 ≤ a → 0 ≤ b → w_L_law_490 (fun x12 x13 S => w_L_law_177 Q (d + 1) x12 x13 S) Q 1 x a b T := fun g1 D1 m T a b h1 q1 q2 q3 q4 p7 p8 => by
      unfold w_L_law_490 w_L_law_529
      refine ⟨fun z => absurd z (by decide), fun _ => ?_⟩
      exact RL_so (P := fun v2 S1 => ((v2 = 0 → w_L_law_528 (fun x12 x13 S => w_L_law_177 Q (d + 1) x12 x13 S) Q x S1) ∧ (¬ v2 = 0 → w_L_law_177 Q (d + 1) 1 (x + 1) S1))) (by omega) h1 q1 q2 q3 q4 p7 p8 (fun U hU => ⟨fun z => absurd z (by decide), fun _ => ih (X + 1) (x + 1) U (by omega) ex1 hU⟩)
    have told : ∀ (w a b : Int32), 0 ≤ a → a < 60000 → 0 ≤ b → b < 60000 → w_L_law_325 (fun x12 x13 S => w_L_law_177 Q (d + 1) x12 x13 S) Q x a b w S := fun w a b p7 q7 p8 q8 => by
      unfold w_L_law_325
      refine T_told h (by omega) p7 q7 p8 q8 (fun g1 T r1 e6 e3 => kz ?_)
      exact so g1 D (n + 1) T a b (RA_C (by omega) r1) d1 (by rw [e6]; exact d2) (by rw [e3]; omega) (by omega) p7 p8
    have go : ∀ w : Int32, (0 ≤ w) → (w < 14 ∨ 11 ≤ X) → w_L_law_242 (fun x12 x13 S => w_L_law_177 Q (d + 1) x12 x13 S) Q x w S := fun w w0 hw => by
      unfold w_L_law_242
      refine ⟨by lia, by decide, fun a p7 q7 => kz ⟨by lia, by decide, fun b p8 q8 => kz ?_⟩⟩
      by_cases h14 : 14 ≤ w
      · have hX : 11 ≤ X := hw.resolve_left (by lia)
        have seat : ∀ w : Int32, w_L_law_429 (fun x12 x13 S => w_L_law_177 Q (d + 1) x12 x13 S) Q x a b w S := fun w => by
          unfold w_L_law_429
          refine T_seat h (by omega) (by omega) p7 p8 (fun j g1 T j4 j40 r1 e6 e3 => kz ?_)
          have e40 : j = 0 ∨ nt (g 336 0) ≤ 40 := j40.imp id (fun z => by
            have c6 := nt_cast n3.1
            have e9 : (40 : Int32).toInt = 40 := rfl
            have := z_le.mp z
            omega)
          exact so g1 (D + j) (n + 1) T a b (RA_C (by omega) r1) (by omega) (by omega) (by rw [e3]; omega) (by omega) p7 p8
        have shown : ∀ w : Int32, w_L_law_481 (fun x12 x13 S => w_L_law_177 Q (d + 1) x12 x13 S) Q x a b w S := fun w => by
          unfold w_L_law_481
          refine T_shown h (by omega) (by omega) h9 p7 p8 (fun g1 T r1 e6 e3 => kz ?_)
          obtain ⟨m0', m1', -⟩ := i_n r1.2.1
          have c1 := nt_cast m0'
          have e9 : (500 : Int32).toInt = 500 := rfl
          have h90 := z_le.mp h9
          have e90 : (90000 : Int32).toInt = 90000 := rfl
          have ez : (0 : Int32).toInt = 0 := rfl
          have mm := z_le.mp m0
          have e3' := z_le.mp e3
          rw [z_add (by omega) (by omega)] at e3'
          exact so g1 D (n + 1) T a b (RA_C (by omega) r1) d1 (by omega) (by omega) (by omega) p7 p8
        exact ⟨fun _ => ⟨fun _ => ⟨fun _ => shown 0, fun _ => ⟨fun _ => shown 2, fun _ => shown 1⟩⟩, fun _ => ⟨fun _ => ⟨fun _ => seat 1, fun _ => ⟨fun _ => ⟨fun _ => ⟨fun _ => ⟨fun _ => seat 6, fun _ => seat 5⟩, fun _ => seat 4⟩, fun _ => seat 3⟩, fun _ => seat 2⟩⟩, fun _ => seat 0⟩⟩, fun z => absurd h14 z⟩
      · exact ⟨fun z => absurd z h14, fun _ => ⟨fun _ => ⟨fun _ => told 5 a b p7 q7 p8 q8, fun _ => ⟨fun _ => told 7 a b p7 q7 p8 q8, fun _ => told 6 a b p7 q7 p8 q8⟩⟩, fun _ => told w a b p7 q7 p8 q8⟩⟩
    rw [w_L_law_177]
    refine ⟨fun z => absurd z (by lia), fun _ => ⟨fun z => absurd z (by decide), fun _ => ⟨fun _ => ⟨fun _ => ⟨fun _ => ⟨fun z => ?_, fun _ => go 7 (by decide) (Or.inl (by decide))⟩, fun _ => go 4 (by decide) (Or.inl (by decide))⟩, fun _ => go 2 (by decide) (Or.inl (by decide))⟩, fun _ => go 0 (by decide) (Or.inl (by decide))⟩⟩⟩
    have hX : 11 ≤ X := by
      rw [ex, z_le, e5] at z
      have e11 : (11 : Int32).toInt = 11 := rfl
      omega
    exact ⟨by lia, by decide, fun w w0 w1 => kz (go w w0 (Or.inr hX))⟩
theorem law_all (hQ : ∀ S, Q 0 1 S) (h : ∀ S22, S22 = su S 112 (nt 1) 10 → RA 0 0 g0 S22) : w_L_law_66 Q S := by
  have gz : ∀ {c i : Nat}, c ≠ 301 → c ≠ 126 → c ≠ 127 → g0 c i = 0 := fun h1 h2 h3 => g0_z h1 h2 h3
  have e307 : g0 307 0 = 0 := gz (by decide) (by decide) (by decide)
  have e321 : g0 321 0 = 0 := gz (by decide) (by decide) (by decide)
  have e331 : g0 331 0 = 0 := gz (by decide) (by decide) (by decide)
  unfold w_L_law_66
  refine ⟨vd, ?_⟩
  intro S22 e22
  have h0 := h S22 e22
  clear e22
  have r1 : rHall g0 7 1 = (1, 0, g0) := by unfold rHall; rw [if_neg (by decide)]
  have r2 : rKey g0 0 0 0 0 = (3, 0, g0) := by unfold rKey; rw [if_neg (fun z => by have := z.1.2; rw [e307] at this; exact absurd this (by decide))]
  have r3 : rPass g0 0 = (1, 0, g0) := by unfold rPass; rw [if_neg (by decide)]
  have r4 : rLetGo g0 0 = (3, 0, g0) := by unfold rLetGo; rw [if_neg (fun z => by have := z.2; rw [e331] at this; exact absurd this (by decide))]
  have r5 : rSeat g0 0 0 0 = (3, 0, g0) := by unfold rSeat; rw [if_neg (fun z => by have := z.1.2; rw [e321] at this; exact absurd this (by decide))]
  have r6 : rPrice g0 0 0 = (3, 0, g0) := by unfold rPrice; rw [if_neg (fun z => by have := z.2; rw [e321] at this; exact absurd this (by decide))]
  refine dz_0 h0.1 h0.2.1 h0.2.2.2.2 (by decide) (RA_go (lS_rf h0) (by rw [r1]) h0.2.1 h0.2.2.2.1 (v := -2000000) (by rw [r1, dva_1]) (fun S1 h1 => kz ⟨fun _ => ?_, fun z => absurd rfl z⟩))
  refine dz_3 h1.1 h1.2.1 h1.2.2.2.2 (by decide) (RA_go (lS_rf h1) (by rw [r2]) h1.2.1 h1.2.2.2.1 (v := -3000000) (by rw [r2, dva_3]) (fun S2 h2 => kz ⟨fun _ => ?_, fun z => absurd rfl z⟩))
  refine dz_8 h2.1 h2.2.1 h2.2.2.2.2 (by decide) (RA_go (lS_rf h2) (by rw [r3]) h2.2.1 h2.2.2.2.1 (v := -2000000) (by rw [r3, dva_1]) (fun S3 h3 => kz ⟨fun _ => ?_, fun z => absurd rfl z⟩))
  refine dz_10 h3.1 h3.2.1 h3.2.2.2.2 (by decide) (RA_go (lS_rf h3) (by rw [r4]) h3.2.1 h3.2.2.2.1 (v := -3000000) (by rw [r4, dva_3]) (fun S4 h4 => kz ⟨fun _ => ?_, fun z => absurd rfl z⟩))
  refine dz_18 h4.1 h4.2.1 h4.2.2.2.2 (by decide) (RA_go (lS_rf h4) (by rw [r5]) h4.2.1 h4.2.2.2.1 (v := -3000000) (by rw [r5, dva_3]) (fun S5 h5 => kz ⟨fun _ => ?_, fun z => absurd rfl z⟩))
  refine dz_19 h5.1 h5.2.1 h5.2.2.2.2 (by decide) (RA_go (lS_rf h5) (by rw [r6]) h5.2.1 h5.2.2.2.1 (v := -3000000) (by rw [r6, dva_3]) (fun S6 h6 => kz ⟨fun _ => ?_, fun z => absurd rfl z⟩))
  unfold w_L_law_172
  exact ⟨61, law_loop hQ 60 0 0 S6 rfl rfl ⟨g0, 0, 6, h6, by decide, Nat.zero_le _, by rw [gz (by decide) (by decide) (by decide)]; decide, by decide⟩⟩
end LO
