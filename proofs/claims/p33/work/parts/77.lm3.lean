/-! fits: what the law finds against a show -/
section L4
variable {g : Gm} {S S0 T : Sg} {C : Nat} {f h' t : Int32} {Q : Nat → Int32 → Sg → Prop}
theorem brn_succ {x : Int32} (h : 0 ≤ x) (h2 : x < 1000) : brn g f h' (nt (x + 1)) = brn g f h' (nt x) + (if on g x ∧ g 123 (nt x) = h' then g 108 (nt (g 122 (nt x))) else 0) := by
  unfold brn
  rw [sm_succ h (by lia)]
  lia
theorem ex_succ {P : Int32 → Prop} {x : Int32} (h : 0 ≤ x) (h2 : x < 1000) : (∃ k : Int32, 0 ≤ k ∧ k < x + 1 ∧ P k) ↔ (∃ k : Int32, 0 ≤ k ∧ k < x ∧ P k) ∨ P x := by
  constructor
  · rintro ⟨k, k0, k1, k2⟩
    rcases i32_lt1 k1 h (by lia) with e | e
    · exact Or.inl ⟨k, k0, e, k2⟩
    · rw [e] at k2; exact Or.inr k2
  · rintro (⟨k, k0, k1, k2⟩ | k2)
    · exact ⟨k, k0, by lia, k2⟩
    · exact ⟨x, h, by lia, k2⟩
theorem Lfits (h : LX S g) (hI : Ia g) (hB : LB C g) (hf : isX g 307 f) (hh : isX g 302 h') (ht : 0 ≤ t ∧ t ≤ 200000) (q : Q 0 (rsn g f h' t) S) : w_L_fits f h' t S Q := by
  have b1 := lb_1 hB
  obtain ⟨B2, B7, B16, B21, B31⟩ := lb_1 hB
  have n3 := n321 (ia_n hI)
  obtain ⟨-, -, sp0, sp1, -, -, -, -, m0, m1, -⟩ := ia_n hI
  obtain ⟨f30, f240, -⟩ := ia_f hI f hf.1 hf.2
  have L2 : ∀ (b : Int32), (b = 0 ∨ b = 1) → (b = 1 ↔ ¬ Opn g f h' t) → ∀ (d : Nat) (x m nr : Int32), 0 ≤ x → x + nI d = g 321 0 → x ≤ g 321 0 → (m = 0 ∨ m = 1) → (m = 1 ↔ ∃ k : Int32, 0 ≤ k ∧ k < x ∧ mtS g f h' t k) → (nr = 0 ∨ nr = 1) → (nr = 1 ↔ ∃ k : Int32, 0 ≤ k ∧ k < x ∧ nrS g h' t k) → w_L_fits_99 Q (d + 1) h' t (g 108 (nt f)) b (brn g f h' (nt x)) m nr x S := by
    intro b hb hb1 d
    have fin : ∀ (x m nr : Int32), x = g 321 0 → (m = 0 ∨ m = 1) → (m = 1 ↔ ∃ k : Int32, 0 ≤ k ∧ k < x ∧ mtS g f h' t k) → (nr = 0 ∨ nr = 1) → (nr = 1 ↔ ∃ k : Int32, 0 ≤ k ∧ k < x ∧ nrS g h' t k) → ((b = 1 → Q 0 1 S) ∧ (¬ b = 1 → ((m = 0 → ((nr = 0 → (vp_in (4 + h') 7 ∧ ((brn g f h' (nt x) ≤ (S.1 103 (nt (4 + h'))) → Q 0 0 S) ∧ (¬ brn g f h' (nt x) ≤ (S.1 103 (nt (4 + h'))) → Q 0 4 S)))) ∧ (¬ nr = 0 → Q 0 3 S))) ∧ (¬ m = 0 → Q 0 2 S)))) := by
      intro x m nr e hm hm1 hn hn1
      subst e
      rw [((lx_h h).1 h' hh.1 hh.2).2]
      refine ⟨fun z => ?_, fun z => ⟨fun y => ⟨fun w => ⟨va (by have := hh.1; lia) (by have := hh.2; show _ < 7; lia), fun u => ?_, fun u => ?_⟩, fun w => ?_⟩, fun y => ?_⟩⟩
      · rw [rsn1 (hb1.mp z)] at q; exact q
      · rw [rsn0 (Classical.not_not.mp (fun o => z (hb1.mpr o))) (fun o => by rw [hm1.mpr o] at y; exact absurd y (by decide)) (fun o => by rw [hn1.mpr o] at w; exact absurd w (by decide)) u] at q; exact q
      · rw [rsn4 (Classical.not_not.mp (fun o => z (hb1.mpr o))) (fun o => by rw [hm1.mpr o] at y; exact absurd y (by decide)) (fun o => by rw [hn1.mpr o] at w; exact absurd w (by decide)) u] at q; exact q
      · rw [rsn3 (Classical.not_not.mp (fun o => z (hb1.mpr o))) (fun o => by rw [hm1.mpr o] at y; exact absurd y (by decide)) (hn1.mp (hn.resolve_left w))] at q; exact q
      · rw [rsn2 (Classical.not_not.mp (fun o => z (hb1.mpr o))) (hm1.mp (hm.resolve_left y))] at q; exact q
    induction d with
    | zero =>
      intro x m nr x0 x1 x2 hm hm1 hn hn1
      have e : x = g 321 0 := by rw [← x1]; show x = x + 0; lia
      rw [w_L_fits_99, lg_5 h]
      exact ⟨vd, fun _ => fin x m nr e hm hm1 hn hn1, fun z => absurd (by lia) z⟩
    | succ d ih =>
      intro x m nr x0 x1 x2 hm hm1 hn hn1
      rw [nI1] at x1
      rw [w_L_fits_99, lg_5 h]
      refine ⟨vd, fun z => fin x m nr (by lia) hm hm1 hn hn1, fun z => ⟨va x0 (by show _ < 11; lia), ?_⟩⟩
      have hx : x < g 321 0 := by lia
      obtain ⟨xf0, xf1, xh0, xh1, xt0, xt1, xs0, xs1, -⟩ := ia_s hI x x0 hx
      obtain ⟨xl0, xl1, -⟩ := ia_f hI _ xf0 xf1
      have hon : ¬ 2 ≤ g 125 (nt x) ↔ on g x := by
        unfold on
        constructor
        · intro z; by_cases y : g 125 (nt x) = 0
          · exact Or.inl y
          · exact Or.inr (by lia)
        · rintro (z | z) <;> rw [z] <;> decide
      rw [w_h h hI b1 x0 hx]
      -- the next turn
      have nx : ∀ (m' nr' : Int32), (m' = 0 ∨ m' = 1) → (m' = 1 ↔ m = 1 ∨ mtS g f h' t x) → (nr' = 0 ∨ nr' = 1) → (nr' = 1 ↔ nr = 1 ∨ nrS g h' t x) → ∀ bb, bb = brn g f h' (nt (x + 1)) → w_L_fits_99 Q (d + 1) h' t (g 108 (nt f)) b bb m' nr' (x + 1) S := fun m' nr' h1 h2 h3 h4 bb hbb => by
        rw [hbb]
        exact ih (x + 1) m' nr' (by lia) (by lia) (by lia) h1 (by rw [h2, hm1, ex_succ x0 (by lia)]) h3 (by rw [h4, hn1, ex_succ x0 (by lia)])
      have T230 : ∀ (m' nr' hr : Int32), (hr = 0 ∧ ¬ g 123 (nt x) = h' ∨ hr = 1 ∧ g 123 (nt x) = h') → on g x → (m' = 0 ∨ m' = 1) → (m' = 1 ↔ m = 1 ∨ mtS g f h' t x) → (nr' = 0 ∨ nr' = 1) → (nr' = 1 ↔ nr = 1 ∨ nrS g h' t x) → w_L_fits_230 (fun x6 x7 x8 x9 x10 x11 x12 x13 S => w_L_fits_99 Q (d + 1) x6 x7 x8 x9 x10 x11 x12 x13 S) Q h' t (g 108 (nt f)) b (brn g f h' (nt x)) m' x hr nr' S := fun m' nr' hr hhr ho h1 h2 h3 h4 => by
        unfold w_L_fits_230 w_L_fits_254 w_L_fits_257
        rw [w_f h hI b1 x0 hx, f_len h xf0 xf1]
        refine ⟨fun y => ?_, fun y => ⟨va x0 (by show _ < 11; lia), va (by lia) (by show _ < 24; lia), ?_⟩⟩
        · rintro v rfl
          refine nx m' nr' h1 h2 h3 h4 _ ?_
          rw [brn_succ x0 (by lia), if_neg (fun o => hhr.elim (fun w => w.2 o.2) (fun w => by rw [w.1] at y; exact absurd y (by decide)))]
        · rintro v rfl
          refine nx m' nr' h1 h2 h3 h4 _ ?_
          rw [brn_succ x0 (by lia), if_pos ⟨ho, hhr.elim (fun w => absurd w.1 y) (fun w => w.2)⟩]
      have T189 : ∀ (m' hr : Int32), (hr = 0 ∧ ¬ g 123 (nt x) = h' ∨ hr = 1 ∧ g 123 (nt x) = h') → on g x → (m' = 0 ∨ m' = 1) → (m' = 1 ↔ m = 1 ∨ mtS g f h' t x) → w_L_fits_189 (fun x6 x7 x8 x9 x10 x11 x12 x13 S => w_L_fits_99 Q (d + 1) x6 x7 x8 x9 x10 x11 x12 x13 S) Q h' t (g 108 (nt f)) b (brn g f h' (nt x)) nr x hr (g 124 (nt x)) m' S := fun m' hr hhr ho h1 h2 => by
        unfold w_L_fits_189 w_L_fits_229 w_L_fits_225
        rw [lg_1 h]
        refine ⟨fun y => ⟨fun w => ⟨vd, fun u => ?_, fun u => ⟨vd, fun v => ?_, fun v => ?_⟩⟩, fun w => ?_⟩, fun y => ?_⟩
        · refine T230 m' 0 hr hhr ho h1 h2 (Or.inl rfl) ⟨fun z => absurd z (by decide), ?_⟩
          rintro (z | ⟨-, -, z⟩)
          · rw [y] at z; exact absurd z (by decide)
          · exfalso; split at z <;> lia
        · refine T230 m' 0 hr hhr ho h1 h2 (Or.inl rfl) ⟨fun z => absurd z (by decide), ?_⟩
          rintro (z | ⟨-, -, z⟩)
          · rw [y] at z; exact absurd z (by decide)
          · exfalso; split at z <;> lia
        · refine T230 m' 1 hr hhr ho h1 h2 (Or.inr rfl) ⟨fun _ => Or.inr ⟨ho, hhr.elim (fun o => o.2) (fun o => absurd (o.1.symm.trans w) (by decide)), ?_⟩, fun _ => rfl⟩
          split <;> lia
        · refine T230 m' 0 hr hhr ho h1 h2 (Or.inl rfl) ⟨fun z => absurd z (by decide), ?_⟩
          rintro (z | ⟨-, z, -⟩)
          · rw [y] at z; exact absurd z (by decide)
          · exact hhr.elim (fun o => absurd o.1 w) (fun o => absurd o.2 z)
        · exact T230 m' 1 hr hhr ho h1 h2 (Or.inr rfl) ⟨fun _ => Or.inl (hn.resolve_left y), fun _ => rfl⟩
      have T126 : ∀ hr : Int32, (hr = 0 ∧ ¬ g 123 (nt x) = h' ∨ hr = 1 ∧ g 123 (nt x) = h') → w_L_fits_126 (fun x6 x7 x8 x9 x10 x11 x12 x13 S => w_L_fits_99 Q (d + 1) x6 x7 x8 x9 x10 x11 x12 x13 S) Q h' t (g 108 (nt f)) b (brn g f h' (nt x)) m nr x hr S := fun hr hhr => by
        unfold w_L_fits_126 w_L_fits_188 w_L_fits_184 w_L_fits_257
        refine ⟨va (by lia) (by show _ < 11; lia), ?_⟩
        intro v2 e2
        rw [w_t h x0 hx] at e2
        subst e2
        refine Lstate h hI b1 x0 hx (kz ⟨fun y => ?_, fun y => ?_⟩)
        · have no : ¬ on g x := fun o => (hon.mpr o) y
          refine nx m nr hm ⟨Or.inl, fun o => o.elim id (fun o => absurd o.1 no)⟩ hn ⟨Or.inl, fun o => o.elim id (fun o => absurd o.1 no)⟩ _ ?_
          rw [brn_succ x0 (by lia), if_neg (fun o => no o.1)]; lia
        · have ho := hon.mp y
          refine ⟨fun w => ⟨fun u => ?_, fun u => Lend h hI b1 x0 hx (kz ⟨fun c1 => ?_, fun c1 => ⟨fun c2 => ?_, fun c2 => ?_⟩⟩)⟩, fun w => ?_⟩
          · refine T189 0 hr hhr ho (Or.inl rfl) ⟨fun z => absurd z (by decide), ?_⟩
            rintro (z | ⟨-, z, -⟩)
            · rw [w] at z; exact absurd z (by decide)
            · exact hhr.elim (fun o => absurd z o.2) (fun o => by rw [o.1] at u; exact absurd u (by decide))
          · refine T189 0 hr hhr ho (Or.inl rfl) ⟨fun z => absurd z (by decide), ?_⟩
            rintro (z | ⟨-, -, z, -⟩)
            · rw [w] at z; exact absurd z (by decide)
            · exfalso; lia
          · refine T189 0 hr hhr ho (Or.inl rfl) ⟨fun z => absurd z (by decide), ?_⟩
            rintro (z | ⟨-, -, -, z⟩)
            · rw [w] at z; exact absurd z (by decide)
            · exfalso; lia
          · exact T189 1 hr hhr ho (Or.inr rfl) ⟨fun _ => Or.inr ⟨ho, hhr.elim (fun o => absurd o.1 u) (fun o => o.2), by lia, by lia⟩, fun _ => rfl⟩
          · exact T189 1 hr hhr ho (Or.inr rfl) ⟨fun _ => Or.inl (hm.resolve_left w), fun _ => rfl⟩
      exact ⟨fun y => T126 1 (Or.inr ⟨rfl, y⟩), fun y => T126 0 (Or.inl ⟨rfl, y⟩)⟩
  have L1 : ∀ (d : Nat) (x b : Int32), 0 ≤ x → x + nI d = g 316 0 → x ≤ g 316 0 → (b = 0 ∨ b = 1) → (b = 0 ↔ ∃ k : Int32, 0 ≤ k ∧ k < x ∧ g 117 (nt k) = f ∧ g 118 (nt k) = h' ∧ g 119 (nt k) ≤ t ∧ t + g 108 (nt f) ≤ g 120 (nt k)) → w_L_fits_15 Q (d + 1) f h' t (g 108 (nt f)) b x S := by
    intro d
    have fin : ∀ (x b : Int32), x = g 316 0 → (b = 0 ∨ b = 1) → (b = 0 ↔ ∃ k : Int32, 0 ≤ k ∧ k < x ∧ g 117 (nt k) = f ∧ g 118 (nt k) = h' ∧ g 119 (nt k) ≤ t ∧ t + g 108 (nt f) ≤ g 120 (nt k)) → (vp_in (2 + h') 7 ∧ (∀ v9, v9 = (S.1 103 (nt (2 + h'))) + (g 108 (nt f)) → ∃ n9, w_L_fits_99 Q n9 h' t (g 108 (nt f)) b v9 0 0 0 S)) := by
      intro x b e hb hb0
      subst e
      refine ⟨va (by have := hh.1; lia) (by have := hh.2; show _ < 7; lia), ?_⟩
      intro v9 e9
      rw [(lx_h h).2 h' hh.1 (by have := hh.2; lia)] at e9
      have e10 : v9 = brn g f h' (nt 0) := by rw [e9]; show _ = (g 105 (nt h') + g 108 (nt f)) + 0; lia
      rw [e10]
      exact ⟨nt (g 321 0) + 1, L2 b hb ⟨fun z o => by rw [hb0.mpr o] at z; exact absurd z (by decide), fun o => hb.resolve_left (fun z => o (hb0.mp z))⟩ _ 0 0 0 (by decide) (by rw [nI_nt0 n3.1]; lia) n3.1 (Or.inl rfl) ⟨fun z => absurd z (by decide), fun ⟨k, k0, k1, _⟩ => by exfalso; lia⟩ (Or.inl rfl) ⟨fun z => absurd z (by decide), fun ⟨k, k0, k1, _⟩ => by exfalso; lia⟩⟩
    induction d with
    | zero =>
      intro x b x0 x1 x2 hb hb0
      have e : x = g 316 0 := by rw [← x1]; show x = x + 0; lia
      rw [w_L_fits_15, lg_4 h]
      exact ⟨vd, fun _ => fin x b e hb hb0, fun z => absurd (by lia) z⟩
    | succ d ih =>
      intro x b x0 x1 x2 hb hb0
      rw [nI1] at x1
      rw [w_L_fits_15, lg_4 h]
      refine ⟨vd, fun z => fin x b (by lia) hb hb0, fun z => ⟨va x0 (by show _ < 36; lia), ?_⟩⟩
      have hx : x < g 316 0 := by lia
      obtain ⟨y1, y2, y3⟩ := y_all h x0 hx
      obtain ⟨z1, z2, z3, z4⟩ := lb_6 hB x x0 hx
      have hfh : g 117 (nt x) + 4 * g 118 (nt x) = f + 4 * h' ↔ g 117 (nt x) = f ∧ g 118 (nt x) = h' := by
        have a1 := hf.1
        have a2 := hf.2
        have a3 := hh.1
        have a4 := hh.2
        constructor
        · intro e; constructor <;> lia
        · rintro ⟨e1, e2⟩; rw [e1, e2]
      have nx : ∀ b' : Int32, (b' = 0 ∨ b' = 1) → (b' = 0 ↔ b = 0 ∨ (g 117 (nt x) = f ∧ g 118 (nt x) = h' ∧ g 119 (nt x) ≤ t ∧ t + g 108 (nt f) ≤ g 120 (nt x))) → w_L_fits_15 Q (d + 1) f h' t (g 108 (nt f)) b' (x + 1) S := fun b' h1 h2 => ih (x + 1) b' (by lia) (by lia) (by lia) h1 (by rw [h2, hb0, ex_succ x0 (by lia)])
      rw [y1, y2, y3, hfh]
      unfold w_L_fits_69 w_L_fits_71
      refine ⟨fun e => ⟨va (by lia) (by show _ < 36; lia), fun c1 => nx b hb ⟨Or.inl, fun o => o.elim id (fun o => by have := o.2.2.1; exfalso; lia)⟩, fun c1 => ⟨va (by lia) (by show _ < 36; lia), fun c2 => nx b hb ⟨Or.inl, fun o => o.elim id (fun o => by have := o.2.2.2; exfalso; lia)⟩, fun c2 => nx 0 (Or.inl rfl) ⟨fun _ => Or.inr ⟨e.1, e.2, by lia, by lia⟩, fun _ => rfl⟩⟩⟩, fun e => nx b hb ⟨Or.inl, fun o => o.elim id (fun o => absurd ⟨o.1, o.2.1⟩ e)⟩⟩
  unfold w_L_fits
  have f0 := hf.1
  have f1 := hf.2
  refine ⟨va (by lia) (by show _ < 24; lia), ?_⟩
  intro v10 e10
  rw [f_len h hf.1 hf.2] at e10
  subst e10
  exact ⟨nt (g 316 0) + 1, L1 _ 0 1 (by decide) (by rw [nI_nt0 m0]; lia) m0 (Or.inr rfl) ⟨fun z => absurd z (by decide), fun ⟨k, k0, k1, _⟩ => by exfalso; lia⟩⟩
end L4
