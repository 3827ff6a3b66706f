/-! isSo: takings, as the law counts them; asking -/
section O1
variable {n C : Nat} {g : Gm} {S T : Sg} {s f w : Int32} {Q : Nat → Int32 → Sg → Prop}
theorem RA_k {r : Rr} {v : Int32} (h : RA n C g S) (er : r = (0, v, g)) {P : Int32 → Sg → Prop} {R : Nat → Sg → Prop} (q : ∀ S2, RA (n + 1) C g S2 → P v S2) : cPost n r S (fun k v S1 => (k = 0 → P v S1) ∧ (¬ k = 0 → R k S1)) := by
  subst er
  intro S2 c f b
  exact ⟨fun _ => q S2 ⟨c, h.2.1, LR_fr f h.2.2.1, h.2.2.2.1, b⟩, fun z => absurd rfl z⟩
theorem week_rng {t : Int32} (h0 : 1 ≤ t) (h1 : t ≤ 100000) : 0 ≤ t / 10080 ∧ t / 10080 ≤ 9 := by
  have z0 : (0 : Int32).toInt = 0 := rfl
  have z1 : (10080 : Int32).toInt = 10080 := rfl
  have z9 : (9 : Int32).toInt = 9 := rfl
  have z5 : (100000 : Int32).toInt = 100000 := rfl
  have zo : (1 : Int32).toInt = 1 := rfl
  have t1 := z_le.mp h0
  have t2 := z_le.mp h1
  have d := z_div (x := t) (d := 10080) (by lia) (by decide)
  rw [z1] at d
  constructor <;> (rw [z_le, d]; omega)
theorem opg_rng (hI : Ia g) : ∀ m : Nat, nI m ≤ g 321 0 → m ≤ 400 → opg g f m = -1 ∨ (0 ≤ opg g f m ∧ opg g f m ≤ 9)
  | 0, _, _ => Or.inl rfl
  | m + 1, h, hm => by
    have e1 : (nI m).toInt = m := nI_toInt (by omega)
    have z0 : (0 : Int32).toInt = 0 := rfl
    have m0 : 0 ≤ nI m := by rw [z_le, e1]; omega
    have m4 : nI m ≤ 400 := by rw [z_le, e1]; show (m : Int) ≤ 400; omega
    rw [nI1] at h
    have ih := opg_rng hI m (by lia) (by omega)
    have t := (ia_s hI (nI m) m0 (by lia)).2.2.2.2
    have r := week_rng t.1 t.2.1
    have hs : opg g f (m + 1) = if g 122 (nt (nI m)) = f ∧ g 125 (nt (nI m)) ≠ 4 ∧ (opg g f m = -1 ∨ g 124 (nt (nI m)) / 10080 < opg g f m) then g 124 (nt (nI m)) / 10080 else opg g f m := rfl
    rw [hs]
    split
    · exact Or.inr r
    · exact ih
/-- the law's takings: -1 with no opening -/
theorem Ltakings (h : LX S g) (hI : Ia g) (hB : LB C g) (hC : C ≤ 511) (q : Q 0 (if opn g f = -1 then -1 else tkn g f w) S) : w_L_takings f w S Q := by
  have b1 := lb_1 hB
  obtain ⟨c302, c307, c316, b4, c331⟩ := lb_1 hB
  have n3 := n336 (ia_n hI)
  have n2 := n321 (ia_n hI)
  have n63 := n336_le hB hC n3.1
  -- the tickets
  have L2 : ∀ o : Int32, (o = 1000 ∧ opn g f = -1 ∨ o = opn g f ∧ 0 ≤ o ∧ o ≤ 9) → ∀ (d : Nat) (x v : Int32), 0 ≤ x → x + nI d = g 336 0 → x ≤ g 336 0 → (opn g f ≠ -1 → v = sm (fun t => if g 122 (nt (g 137 (nt t))) = f ∧ g 124 (nt (g 137 (nt t))) / 10080 = opn g f + w then g 140 (nt t) else 0) (nt x)) → w_L_takings_93 Q (d + 1) f w o v x S := by
    intro o ho d
    have fin : ∀ v : Int32, (opn g f ≠ -1 → v = sm (fun t => if g 122 (nt (g 137 (nt t))) = f ∧ g 124 (nt (g 137 (nt t))) / 10080 = opn g f + w then g 140 (nt t) else 0) (nt (g 336 0))) → w_L_takings_167 Q o v S := fun v hv => by
      unfold w_L_takings_167
      rcases ho with ⟨e, e2⟩ | ⟨e, e1, e2⟩
      · rw [if_pos e2] at q
        exact ⟨fun _ => q, fun z => absurd e z⟩
      · have ne : opn g f ≠ -1 := fun z => by rw [z] at e; lia
        rw [if_neg ne] at q
        refine ⟨fun z => by exfalso; lia, fun _ => ?_⟩
        have ev := hv ne
        have esw := sm_swap (W := fun s => g 122 (nt s) = f ∧ g 124 (nt s) / 10080 = opn g f + w) (sh := fun t => g 137 (nt t)) (p := fun t => g 140 (nt t)) (m := nt (g 321 0)) (nt_lt32 _) (nt (g 336 0)) (nt_lt32 _) (fun t t0 t1 => by
          rw [nI_nt0 n3.1] at t1
          obtain ⟨s0, s1, -⟩ := ia_t hI t t0 t1
          rw [nI_nt0 n2.1]
          exact ⟨s0, s1⟩)
        have et : tkn g f w = v := by
          rw [ev, ← esw]
          unfold tkn
          refine sm_congr (nt_lt32 _) (fun s _ _ => ?_)
          by_cases c : g 122 (nt s) = f ∧ g 124 (nt s) / 10080 = opn g f + w
          · rw [if_pos ⟨ne, c⟩, if_pos c]; rfl
          · rw [if_neg (fun z => c z.2), if_neg c]
        rw [et] at q
        exact q
    induction d with
    | zero =>
      intro x v x0 x1 x2 hv
      have ex : x = g 336 0 := by rw [← x1]; show x = x + 0; lia
      rw [w_L_takings_93, lg_7 h]
      exact ⟨vd, fun _ => fin v (by rw [ex] at hv; exact hv), fun z => absurd (by lia) z⟩
    | succ d ih =>
      intro x v x0 x1 x2 hv
      rw [nI1] at x1
      rw [w_L_takings_93, lg_7 h]
      by_cases hlt : x < g 336 0
      · obtain ⟨d1, d2, d3, d4, d5, d6, d7, d8⟩ := t_all h hI hB x0 hlt
        obtain ⟨s0, s1, -⟩ := ia_t hI x x0 hlt
        have vt : vp_in x 64 := va x0 (by show _ < 64; lia)
        refine ⟨vd, fun z => absurd z (by lia), fun _ => ⟨fun z => fin v (fun ne => ?_), fun z => ⟨vt, ?_⟩⟩⟩
        · exfalso
          rcases ho with e | e
          · exact ne e.2
          · lia
        · intro v2 e2
          rw [d1] at e2
          subst e2
          have eo : o = opn g f := by
            rcases ho with e | e
            · exfalso; lia
            · exact e.1
          have nx : ∀ y : Int32, y = (if g 122 (nt (g 137 (nt x))) = f ∧ g 124 (nt (g 137 (nt x))) / 10080 = opn g f + w then g 140 (nt x) else 0) → w_L_takings_158 (fun x4 x5 x6 x7 x8 S => w_L_takings_93 Q (d + 1) x4 x5 x6 x7 x8 S) Q f w o x y v S := fun y hy => by
            unfold w_L_takings_158
            rintro v1 rfl
            refine ih (x + 1) (v + y) (by lia) (by lia) (by lia) (fun ne => ?_)
            rw [sm_succ x0 (by lia), hv ne, hy]
          rw [w_f h hI b1 s0 s1, w_t h s0 s1, d6, eo] at *
          unfold w_L_takings_157
          refine ⟨va s0 (by show _ < 11; lia), fun z1 => ⟨va (by lia) (by show _ < 11; lia), fun z2 => ⟨vt, ?_⟩, fun z2 => ?_⟩, fun z1 => ?_⟩
          · have := nx (g 140 (nt x)) (by rw [if_pos ⟨z1, z2⟩])
            exact this
          · exact nx 0 (by rw [if_neg (fun u => z2 u.2)])
          · exact nx 0 (by rw [if_neg (fun u => z1 u.1)])
      · exact ⟨vd, fun _ => fin v (by rw [show x = g 336 0 by lia] at hv; exact hv), fun z => absurd (by lia) z⟩
  -- the opening
  have L1 : ∀ (d : Nat) (x o : Int32), 0 ≤ x → x + nI d = g 321 0 → x ≤ g 321 0 → (o = 1000 ∧ opg g f (nt x) = -1 ∨ o = opg g f (nt x) ∧ 0 ≤ o ∧ o ≤ 9) → w_L_takings_8 Q (d + 1) f w o x S := by
    intro d
    have fin : ∀ o : Int32, (o = 1000 ∧ opn g f = -1 ∨ o = opn g f ∧ 0 ≤ o ∧ o ≤ 9) → ∃ n9, w_L_takings_93 Q n9 f w o 0 0 S := fun o ho => by
      have := L2 o ho (nt (g 336 0)) 0 0 (by decide) (by rw [nI_nt0 n3.1]; lia) n3.1 (fun _ => by rw [show nt 0 = 0 by decide]; rfl)
      exact ⟨nt (g 336 0) + 1, this⟩
    induction d with
    | zero =>
      intro x o x0 x1 x2 ho
      have ex : x = g 321 0 := by rw [← x1]; show x = x + 0; lia
      rw [w_L_takings_8, lg_5 h]
      exact ⟨vd, fun _ => fin o (by rw [ex] at ho; exact ho), fun z => absurd (by lia) z⟩
    | succ d ih =>
      intro x o x0 x1 x2 ho
      rw [nI1] at x1
      rw [w_L_takings_8, lg_5 h]
      by_cases hlt : x < g 321 0
      · have es : opg g f (nt (x + 1)) = if g 122 (nt x) = f ∧ g 125 (nt x) ≠ 4 ∧ (opg g f (nt x) = -1 ∨ g 124 (nt x) / 10080 < opg g f (nt x)) then g 124 (nt x) / 10080 else opg g f (nt x) := by
          rw [ntS x0 (by lia)]
          show (if g 122 (nt (nI (nt x))) = f ∧ g 125 (nt (nI (nt x))) ≠ 4 ∧ (opg g f (nt x) = -1 ∨ g 124 (nt (nI (nt x))) / 10080 < opg g f (nt x)) then g 124 (nt (nI (nt x))) / 10080 else opg g f (nt x)) = _
          rw [nI_nt0 x0]
        have rg := opg_rng (f := f) hI (nt (x + 1)) (by rw [nI_nt0 (by lia)]; lia) (nt_le (n := 400) (by decide) (show x + 1 ≤ 400 by lia))
        have st := ia_s hI x x0 hlt
        have wk : 0 ≤ g 124 (nt x) / 10080 ∧ g 124 (nt x) / 10080 ≤ 9 := by
          have t := st.2.2.2.2
          exact week_rng t.1 t.2.1
        have keep : ¬ (g 122 (nt x) = f ∧ g 125 (nt x) ≠ 4 ∧ (opg g f (nt x) = -1 ∨ g 124 (nt x) / 10080 < opg g f (nt x))) → w_L_takings_56 (fun x4 x5 x6 x7 S => w_L_takings_8 Q (d + 1) x4 x5 x6 x7 S) Q f w o x S := fun c => by
          unfold w_L_takings_56 w_L_takings_57 w_L_takings_79
          refine ⟨fun _ => ih (x + 1) o (by lia) (by lia) (by lia) (by rw [es, if_neg c]; exact ho), fun z => absurd rfl z⟩
        have take : (g 122 (nt x) = f ∧ g 125 (nt x) ≠ 4 ∧ (opg g f (nt x) = -1 ∨ g 124 (nt x) / 10080 < opg g f (nt x))) → w_L_takings_57 (fun x4 x5 x6 x7 S => w_L_takings_8 Q (d + 1) x4 x5 x6 x7 S) Q f w o x 1 S := fun c => by
          unfold w_L_takings_57 w_L_takings_79
          rw [w_t h x0 hlt]
          refine ⟨fun z => absurd z (by decide), fun _ => ⟨va (by lia) (by show _ < 11; lia), ih (x + 1) _ (by lia) (by lia) (by lia) (by rw [es, if_pos c]; exact Or.inr ⟨rfl, wk⟩)⟩⟩
        rw [w_f h hI b1 x0 hlt]
        refine ⟨vd, fun z => absurd z (by lia), fun _ => ⟨va x0 (by show _ < 11; lia), fun z1 => Lstate h hI b1 x0 hlt (kz ⟨fun z2 => keep (fun c => c.2.1 (by have := st.2.2.2.2.2.2.2.1; lia)), fun z2 => ⟨va (by lia) (by show _ < 11; lia), ?_⟩⟩), fun z1 => keep (fun c => z1 c.1)⟩⟩
        rw [w_t h x0 hlt]
        refine ⟨fun z3 => keep (fun c => ?_), fun z3 => take ⟨z1, fun u => by rw [u] at z2; exact absurd (by decide) z2, ?_⟩⟩
        · rcases ho with e | e
          · have := c.2.2; lia
          · rcases c.2.2 with u | u
            · rw [u] at e; lia
            · rw [← e.1] at u; lia
        · rcases ho with e | e
          · exact Or.inl e.2
          · exact Or.inr (by rw [← e.1]; lia)
      · exact ⟨vd, fun _ => fin o (by rw [show x = g 321 0 by lia] at ho; exact ho), fun z => absurd (by lia) z⟩
  unfold w_L_takings
  exact ⟨nt (g 321 0) + 1, L1 (nt (g 321 0)) 0 1000 (by decide) (by rw [nI_nt0 n2.1]; lia) n2.1 (Or.inl ⟨rfl, by rw [show nt 0 = 0 by decide]; rfl⟩)⟩
end O1
