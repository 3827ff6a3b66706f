/-! isSo: shows, halls, all; whole -/
section O3
variable {n m C M : Nat} {g : Gm} {S T : Sg} {s f w : Int32} {Q : Nat → Int32 → Sg → Prop}
theorem cnt12 {c : Nat} (hc : c = 126 ∨ c = 127) (hI : Ia g) (hB : LB C g) (s0 : 0 ≤ s) (s1 : s < g 321 0) : cnt g c s 48 = sm (fun p => if g c (nt (48 * s + p)) = -1 then 0 else 1) 12 := by
  have b4 := (lb_1 hB).2.2.2.1
  have w12 := (wd12 hI hB s0 s1).2
  have e12 : nI 12 = 12 := rfl
  have e48 : nI (12 + 36) = 48 := rfl
  exact sm_tail (f := fun p => if g c (nt (48 * s + p)) = -1 then 0 else 1) (n := 12) 36 (by decide) (fun x h0 h1 => by
    rw [e12] at h0
    rw [e48] at h1
    obtain ⟨q1, q2⟩ := ia_pl hI s x s0 (by lia) (by lia) h1
    rw [if_pos]
    rcases hc with rfl | rfl
    · rcases q1 with z | z
      · exact z
      · exfalso; have := z.2.2.2.2; lia
    · rcases q2 with z | z
      · exact z
      · exfalso; have := z.2.2.2; lia)
theorem os_0 (hs : isX g 321 s) : rOfShow g s 0 = (0, g 122 (nt s), g) := by unfold rOfShow; rw [if_pos ⟨hs, by decide⟩, if_pos rfl]
theorem os_1 (hs : isX g 321 s) : rOfShow g s 1 = (0, g 123 (nt s), g) := by unfold rOfShow; rw [if_pos ⟨hs, by decide⟩, if_neg (by decide), if_pos rfl]
theorem os_2 (hs : isX g 321 s) : rOfShow g s 2 = (0, g 124 (nt s), g) := by unfold rOfShow; rw [if_pos ⟨hs, by decide⟩, if_neg (by decide), if_neg (by decide), if_pos rfl]
theorem os_3 (hs : isX g 321 s) : rOfShow g s 3 = (0, g 125 (nt s), g) := by unfold rOfShow; rw [if_pos ⟨hs, by decide⟩, if_neg (by decide), if_neg (by decide), if_neg (by decide), if_pos rfl]
theorem os_4 (hs : isX g 321 s) : rOfShow g s 4 = (0, cnt g 126 s 48, g) := by unfold rOfShow; rw [if_pos ⟨hs, by decide⟩, if_neg (by decide), if_neg (by decide), if_neg (by decide), if_neg (by decide), if_pos rfl]
theorem os_5 (hs : isX g 321 s) : rOfShow g s 5 = (0, cnt g 127 s 48, g) := by unfold rOfShow; rw [if_pos ⟨hs, by decide⟩, if_neg (by decide), if_neg (by decide), if_neg (by decide), if_neg (by decide), if_neg (by decide), if_pos rfl]
theorem os_6 (hs : isX g 321 s) : rOfShow g s 6 = (0, g 128 (nt s), g) := by unfold rOfShow; rw [if_pos ⟨hs, by decide⟩, if_neg (by decide), if_neg (by decide), if_neg (by decide), if_neg (by decide), if_neg (by decide), if_neg (by decide), if_pos rfl]
theorem os_7 (hs : isX g 321 s) : rOfShow g s 7 = (0, pf g s, g) := by unfold rOfShow; rw [if_pos ⟨hs, by decide⟩, if_neg (by decide), if_neg (by decide), if_neg (by decide), if_neg (by decide), if_neg (by decide), if_neg (by decide), if_neg (by decide)]
theorem div_lt {x a b : Int32} (h0 : 0 ≤ x) (hb : 0 < b) (ha : 0 ≤ a ∧ a ≤ 1000) (hb2 : b ≤ 1000) (h : x < a * b) : 0 ≤ x / b ∧ x / b < a := by
  have z0 : (0 : Int32).toInt = 0 := rfl
  have z1 : (1000 : Int32).toInt = 1000 := rfl
  have d := z_div h0 hb
  have h1 := z_le.mp h0
  have h2 := z_lt.mp hb
  have h3 := z_le.mp ha.1
  have h4 := z_le.mp ha.2
  have h5 := z_le.mp hb2
  have c1 : 0 ≤ a.toInt * b.toInt := Int.mul_nonneg (by omega) (by omega)
  have c2 : a.toInt * b.toInt ≤ 1000 * 1000 := Int.mul_le_mul (by omega) (by omega) (by omega) (by omega)
  have h6 := z_lt.mp h
  rw [z_mul (by omega) (by omega)] at h6
  have h7 : 0 ≤ x.toInt / b.toInt := Int.ediv_nonneg (by omega) (by omega)
  have h8 : x.toInt / b.toInt < a.toInt := Int.ediv_lt_of_lt_mul (by omega) h6
  constructor
  · rw [z_le, d]; omega
  · rw [z_lt, d]; omega
theorem O_show {a b : Int32} (h : RA m C g S) (hC : C ≤ 511) (hm : m + 125 ≤ M) (hM : M ≤ 20000) (p7 : 0 ≤ a) (p8 : 0 ≤ b) (q : ∀ T, RA M C g T → Q 0 1 T) : w_L_isSo_371 Q a b 1 S := by
  have hI := h.2.1
  have hB := h.2.2.2.1
  have b1 := lb_1 hB
  obtain ⟨c302, c307, c316, b4, c331⟩ := lb_1 hB
  have n3 := n336 (i_n hI)
  have n63 := n336_le hB hC n3.1
  have n2 := n321 (i_n hI)
  obtain ⟨g0, g1⟩ := rmz (d := 121) p7 (by decide)
  have LA : ∀ (d : Nat) (x : Int32) (S : Sg) (m : Nat), 0 ≤ x → x + nI d = g 321 0 → x ≤ g 321 0 → RA m C g S → m + 21 * d + 20 ≤ M → w_L_isSo_374 Q (d + 1) a b 1 x S := by
    intro d
    induction d with
    | zero =>
      intro x S m x0 x1 x2 h hm
      have ex : x = g 321 0 := by rw [← x1]; show x = x + 0; lia
      rw [w_L_isSo_374, lg_5 h.2.2.1.1]
      exact ⟨vd, fun _ => O_film h hC (by omega) hM p7 p8 q, fun z => absurd (by lia) z⟩
    | succ d ih =>
      intro x S m x0 x1 x2 h hm
      rw [nI1] at x1
      rw [w_L_isSo_374, lg_5 h.2.2.1.1]
      by_cases hlt : x < g 321 0
      · have hs : isX g 321 x := ⟨x0, hlt⟩
        obtain ⟨f0, f1, hh0, hh1, -⟩ := ia_s hI.1 x x0 hlt
        obtain ⟨r3, r4, r5, r6⟩ := ia_h hI.1 _ hh0 hh1
        have w12 := wd12 hI.1 hB x0 hlt
        have vs : vp_in x 11 := va x0 (by show _ < 11; lia)
        have vs5 : vp_in (5 + x) 11 := va (by lia) (by show _ < 11; lia)
        have vh : vp_in (g 123 (nt x)) 7 := va hh0 (by show _ < 7; lia)
        have rd : ∀ {m : Nat} {S : Sg}, RA m C g S → S.1 106 (nt x) / 4 - S.1 106 (nt x) / 4 / 4 * 4 = g 123 (nt x) ∧ S.1 103 (nt (g 123 (nt x))) - S.1 103 (nt (g 123 (nt x))) / 8 * 8 = g 103 (nt (g 123 (nt x))) ∧ S.1 103 (nt (g 123 (nt x))) / 8 = g 104 (nt (g 123 (nt x))) := fun h => by
          obtain ⟨e1, e2⟩ := h_all h.2.2.1.1 hI.1 hh0 hh1
          exact ⟨w_h h.2.2.1.1 hI.1 b1 x0 hlt, e1, e2⟩
        -- the show's own numbers
        have f3 : ∀ (S : Sg) (m : Nat), RA m C g S → m + 9 + 21 * d + 20 ≤ M → (w_X7_ofShow x 0 S (fun k50 v49 S48 => (k50 = 0 → (vp_in x 11 ∧ ((v49 = ((S48.1 106 (nt x)) - (S48.1 106 (nt x)) / 4 * 4) → (w_X7_ofShow x 1 S48 (fun k53 v52 S51 => (k53 = 0 → (vp_in x 11 ∧ ((v52 = (((S51.1 106 (nt x)) / 4) - ((S51.1 106 (nt x)) / 4) / 4 * 4) → (w_X7_ofShow x 2 S51 (fun k56 v55 S54 => (k56 = 0 → (vp_in (5 + x) 11 ∧ ((v55 = (S54.1 106 (nt (5 + x))) → (w_X7_ofShow x 3 S54 (fun k59 v58 S57 => (k59 = 0 → (w_L_state x S57 (fun k62 v61 S60 => (k62 = 0 → ((v58 = v61 → (w_X7_ofShow x 4 S60 (fun k65 v64 S63 => (k65 = 0 → ((v64 = (sm (fun p => if g 126 (nt (48 * x + p)) = -1 then 0 else 1) 12) → (w_X7_ofShow x 5 S63 (fun k68 v67 S66 => (k68 = 0 → ((v67 = (sm (fun p => if g 127 (nt (48 * x + p)) = -1 then 0 else 1) 12) → (w_X7_ofShow x 6 S66 (fun k71 v70 S69 => (k71 = 0 → (w_L_people x S69 (fun k74 v73 S72 => (k74 = 0 → ((v70 = v73 → (w_X7_ofShow x 7 S72 (fun k77 v76 S75 => (k77 = 0 → ((v76 = (pf g x) → (w_X7_price x (a - a / 121 * 121) S75 (fun k80 v79 S78 => (k80 = 0 → (w_L_price x (a - a / 121 * 121) S78 (fun k83 v82 S81 => (k83 = 0 → ((v79 = v82 → w_L_isSo_760 (fun x11 x12 x15 x16 S => w_L_isSo_374 Q (d + 1) x11 x12 x15 x16 S) Q a b x 1 S81) ∧ (¬ v79 = v82 → w_L_isSo_759 (fun x11 x12 x15 x16 S => w_L_isSo_374 Q (d + 1) x11 x12 x15 x16 S) Q a b x S81))) ∧ (¬ k83 = 0 → Q k83 0 S81)))) ∧ (¬ k80 = 0 → Q k80 0 S78)))) ∧ (¬ v76 = (pf g x) → w_L_isSo_759 (fun x11 x12 x15 x16 S => w_L_isSo_374 Q (d + 1) x11 x12 x15 x16 S) Q a b x S75))) ∧ (¬ k77 = 0 → Q k77 0 S75)))) ∧ (¬ v70 = v73 → w_L_isSo_759 (fun x11 x12 x15 x16 S => w_L_isSo_374 Q (d + 1) x11 x12 x15 x16 S) Q a b x S72))) ∧ (¬ k74 = 0 → Q k74 0 S72)))) ∧ (¬ k71 = 0 → Q k71 0 S69)))) ∧ (¬ v67 = (sm (fun p => if g 127 (nt (48 * x + p)) = -1 then 0 else 1) 12) → w_L_isSo_759 (fun x11 x12 x15 x16 S => w_L_isSo_374 Q (d + 1) x11 x12 x15 x16 S) Q a b x S66))) ∧ (¬ k68 = 0 → Q k68 0 S66)))) ∧ (¬ v64 = (sm (fun p => if g 126 (nt (48 * x + p)) = -1 then 0 else 1) 12) → w_L_isSo_759 (fun x11 x12 x15 x16 S => w_L_isSo_374 Q (d + 1) x11 x12 x15 x16 S) Q a b x S63))) ∧ (¬ k65 = 0 → Q k65 0 S63)))) ∧ (¬ v58 = v61 → w_L_isSo_759 (fun x11 x12 x15 x16 S => w_L_isSo_374 Q (d + 1) x11 x12 x15 x16 S) Q a b x S60))) ∧ (¬ k62 = 0 → Q k62 0 S60)))) ∧ (¬ k59 = 0 → Q k59 0 S57)))) ∧ (¬ v55 = (S54.1 106 (nt (5 + x))) → w_L_isSo_759 (fun x11 x12 x15 x16 S => w_L_isSo_374 Q (d + 1) x11 x12 x15 x16 S) Q a b x S54)))) ∧ (¬ k56 = 0 → Q k56 0 S54)))) ∧ (¬ v52 = (((S51.1 106 (nt x)) / 4) - ((S51.1 106 (nt x)) / 4) / 4 * 4) → w_L_isSo_759 (fun x11 x12 x15 x16 S => w_L_isSo_374 Q (d + 1) x11 x12 x15 x16 S) Q a b x S51)))) ∧ (¬ k53 = 0 → Q k53 0 S51)))) ∧ (¬ v49 = ((S48.1 106 (nt x)) - (S48.1 106 (nt x)) / 4 * 4) → w_L_isSo_759 (fun x11 x12 x15 x16 S => w_L_isSo_374 Q (d + 1) x11 x12 x15 x16 S) Q a b x S48)))) ∧ (¬ k50 = 0 → Q k50 0 S48))) := fun S m h hm => by
          refine cls_ofShow h.1 hI h.2.2.2.2 (by omega) (RA_k h (os_0 hs) (fun S1 h1 => ⟨vs, ?_⟩))
          rw [w_f h1.2.2.1.1 hI.1 b1 x0 hlt]
          refine ⟨fun _ => ?_, fun z => absurd rfl z⟩
          refine cls_ofShow h1.1 hI h1.2.2.2.2 (by omega) (RA_k h1 (os_1 hs) (fun S2 h2 => ⟨vs, ?_⟩))
          rw [w_h h2.2.2.1.1 hI.1 b1 x0 hlt]
          refine ⟨fun _ => ?_, fun z => absurd rfl z⟩
          refine cls_ofShow h2.1 hI h2.2.2.2.2 (by omega) (RA_k h2 (os_2 hs) (fun S3 h3 => ⟨vs5, ?_⟩))
          rw [w_t h3.2.2.1.1 x0 hlt]
          refine ⟨fun _ => ?_, fun z => absurd rfl z⟩
          refine cls_ofShow h3.1 hI h3.2.2.2.2 (by omega) (RA_k h3 (os_3 hs) (fun S4 h4 => Lstate h4.2.2.1.1 hI.1 b1 x0 hlt (kz ⟨fun _ => ?_, fun z => absurd rfl z⟩)))
          refine cls_ofShow h4.1 hI h4.2.2.2.2 (by omega) (RA_k h4 (os_4 hs) (fun S5 h5 => ⟨fun _ => ?_, fun z => absurd (cnt12 (Or.inl rfl) hI.1 hB x0 hlt) z⟩))
          refine cls_ofShow h5.1 hI h5.2.2.2.2 (by omega) (RA_k h5 (os_5 hs) (fun S6 h6 => ⟨fun _ => ?_, fun z => absurd (cnt12 (Or.inr rfl) hI.1 hB x0 hlt) z⟩))
          refine cls_ofShow h6.1 hI h6.2.2.2.2 (by omega) (RA_k h6 (os_6 hs) (fun S7 h7 => Lpeople h7.2.2.1.1 hI.1 hB x0 hlt (kz ⟨fun _ => ?_, fun z => absurd rfl z⟩)))
          refine cls_ofShow h7.1 hI h7.2.2.2.2 (by omega) (RA_k h7 (os_7 hs) (fun S8 h8 => ⟨fun _ => ?_, fun z => absurd rfl z⟩))
          have ep : rPrice g x (a - a / 121 * 121) = (0, prc g x (a - a / 121 * 121), g) := by
            unfold rPrice
            rw [if_pos hs, if_pos ⟨g0, by lia⟩]
          refine cls_price h8.1 hI h8.2.2.2.2 (by omega) (RA_k h8 ep (fun S9 h9 => Lprice h9.2.2.1.1 hI.1 b1 x0 hlt (kz ⟨fun _ => ?_, fun z => absurd rfl z⟩)))
          unfold w_L_isSo_760
          exact ih (x + 1) S9 (m + 9) (by lia) (by lia) (by lia) h9 (by omega)
        -- the show's tickets
        have LT : ∀ (e : Nat) (k v : Int32) (S : Sg) (m : Nat), 0 ≤ k → k + nI e = g 336 0 → k ≤ g 336 0 → RA m C g S → m + 9 + 21 * d + 20 ≤ M → v = sm (fun t => if g 137 (nt t) = x then g 140 (nt t) else 0) (nt k) → w_L_isSo_555 (fun x11 x12 x15 x16 S => w_L_isSo_374 Q (d + 1) x11 x12 x15 x16 S) Q (e + 1) a b 1 x (sm (fun p => if g 126 (nt (48 * x + p)) = -1 then 0 else 1) 12) (sm (fun p => if g 127 (nt (48 * x + p)) = -1 then 0 else 1) 12) v k S := by
          intro e
          induction e with
          | zero =>
            intro k v S m k0 k1 k2 h hm hv
            have ek : k = g 336 0 := by rw [← k1]; show k = k + 0; lia
            rw [w_L_isSo_555, lg_7 h.2.2.1.1]
            have ev : v = pf g x := by rw [hv, ek]; rfl
            rw [ev]
            exact ⟨vd, fun _ => ⟨fun z => absurd z (by decide), fun _ => f3 S m h hm⟩, fun z => absurd (by lia) z⟩
          | succ e ihe =>
            intro k v S m k0 k1 k2 h hm hv
            rw [nI1] at k1
            rw [w_L_isSo_555, lg_7 h.2.2.1.1]
            by_cases hkt : k < g 336 0
            · obtain ⟨d1, d2, d3, d4, d5, d6, d7, d8⟩ := t_all h.2.2.1.1 hI.1 hB k0 hkt
              have vt : vp_in k 64 := va k0 (by show _ < 64; lia)
              rw [d1, d6]
              unfold w_L_isSo_589
              refine ⟨vd, fun z => absurd z (by lia), fun _ => ⟨vt, fun z => ⟨vt, ?_⟩, fun z => ?_⟩⟩
              · rintro v47 rfl
                exact ihe (k + 1) _ S m (by lia) (by lia) (by lia) h hm (by rw [sm_succ k0 (by lia), ← hv, if_pos z])
              · rintro v47 rfl
                exact ihe (k + 1) _ S m (by lia) (by lia) (by lia) h hm (by rw [sm_succ k0 (by lia), ← hv, if_neg z])
            · have ek : k = g 336 0 := by lia
              have ev : v = pf g x := by rw [hv, ek]; rfl
              rw [ev]
              exact ⟨vd, fun _ => ⟨fun z => absurd z (by decide), fun _ => f3 S m h hm⟩, fun z => absurd (by lia) z⟩
        -- the show's places
        have LP : ∀ (e : Nat) (k v1 v2 : Int32) (S : Sg) (m : Nat), 0 ≤ k → k + nI e = 12 → k ≤ 12 → RA m C g S → m + e + 9 + 21 * d + 20 ≤ M → v1 = sm (fun p => if g 126 (nt (48 * x + p)) = -1 then 0 else 1) (nt k) → v2 = sm (fun p => if g 127 (nt (48 * x + p)) = -1 then 0 else 1) (nt k) → w_L_isSo_416 (fun x11 x12 x15 x16 S => w_L_isSo_374 Q (d + 1) x11 x12 x15 x16 S) Q (e + 1) a b 1 x v1 v2 0 (g 104 (nt (g 123 (nt x)))) k S := by
          intro e
          have endP : ∀ (S : Sg) (m : Nat), RA m C g S → m + 9 + 21 * d + 20 ≤ M → ∃ n9, w_L_isSo_555 (fun x11 x12 x15 x16 S => w_L_isSo_374 Q (d + 1) x11 x12 x15 x16 S) Q n9 a b 1 x (sm (fun p => if g 126 (nt (48 * x + p)) = -1 then 0 else 1) 12) (sm (fun p => if g 127 (nt (48 * x + p)) = -1 then 0 else 1) 12) 0 0 S := fun S m h hm =>
            ⟨nt (g 336 0) + 1, LT (nt (g 336 0)) 0 0 S m (by decide) (by rw [nI_nt0 n3.1]; lia) n3.1 h hm (by rw [show nt 0 = 0 by decide]; rfl)⟩
          induction e with
          | zero =>
            intro k v1 v2 S m k0 k1 k2 h hm h1 h2
            have ek : k = 12 := by rw [← k1]; show k = k + 0; lia
            rw [ek, show nt 12 = 12 by decide] at h1 h2
            rw [w_L_isSo_416, h1, h2]
            exact ⟨fun _ => endP S m h (by omega), fun z => absurd (by lia) z⟩
          | succ e ihe =>
            intro k v1 v2 S m k0 k1 k2 h hm h1 h2
            rw [nI1] at k1
            have e5 : (nI e).toInt = e := nI_toInt (by omega)
            rw [w_L_isSo_416]
            by_cases hk : k < 12
            · refine ⟨fun z => absurd z (by lia), fun _ => ⟨va (by lia) (by show _ < 60; lia), ?_⟩⟩
              intro v89 e89
              rw [h.2.2.1.2 x k x0 (by lia) k0 hk] at e89
              obtain ⟨q1, q2⟩ := ia_pl hI.1 x k x0 (by lia) k0 (by lia)
              have t1 : g 126 (nt (48 * x + k)) = -1 ∨ 0 ≤ g 126 (nt (48 * x + k)) ∧ g 126 (nt (48 * x + k)) ≤ 1000 := q1.elim Or.inl (fun z => Or.inr ⟨z.1, by have := z.2.1; lia⟩)
              have t2 : g 127 (nt (48 * x + k)) = -1 ∨ 0 ≤ g 127 (nt (48 * x + k)) ∧ g 127 (nt (48 * x + k)) ≤ 1000 := q2.elim Or.inl (fun z => Or.inr ⟨z.1, by have := z.2.1; lia⟩)
              have t3 : g 126 (nt (48 * x + k)) ≠ -1 → g 127 (nt (48 * x + k)) = -1 := fun z => (q1.resolve_left z).2.2.1
              obtain ⟨a1, a2, a3⟩ := eA_0 t1 t2
              rw [← e89] at a1 a2 a3
              have s1 := sm_succ (f := fun p => if g 126 (nt (48 * x + p)) = -1 then 0 else 1) k0 (by lia)
              have s2 := sm_succ (f := fun p => if g 127 (nt (48 * x + p)) = -1 then 0 else 1) k0 (by lia)
              -- on to the next place
              have nx : ∀ (S : Sg) (m' : Nat) (u1 u2 : Int32), RA m' C g S → m' ≤ m + 1 → u1 = v1 + (if g 126 (nt (48 * x + k)) = -1 then 0 else 1) → u2 = v2 + (if g 127 (nt (48 * x + k)) = -1 then 0 else 1) → w_L_isSo_416 (fun x11 x12 x15 x16 S => w_L_isSo_374 Q (d + 1) x11 x12 x15 x16 S) Q (e + 1) a b 1 x u1 u2 0 (g 104 (nt (g 123 (nt x)))) (k + 1) S := fun S m' u1 u2 h hm' hu1 hu2 =>
                ihe (k + 1) u1 u2 S m' (by lia) (by lia) (by lia) h (by omega) (by rw [s1, ← h1]; exact hu1) (by rw [s2, ← h2]; exact hu2)
              have f463 : ∀ u1 y0 : Int32, u1 = v1 + (if g 126 (nt (48 * x + k)) = -1 then 0 else 1) → y0 = (if g 127 (nt (48 * x + k)) = -1 then 0 else 1) → w_L_isSo_463 (fun x11 x12 x15 x16 S => w_L_isSo_374 Q (d + 1) x11 x12 x15 x16 S) (fun x11 x12 x15 x16 x17 x18 x19 x20 x21 S => w_L_isSo_416 (fun x11 x12 x15 x16 S => w_L_isSo_374 Q (d + 1) x11 x12 x15 x16 S) Q (e + 1) x11 x12 x15 x16 x17 x18 x19 x20 x21 S) Q a b 1 x u1 0 (g 104 (nt (g 123 (nt x)))) k v89 y0 v2 S := fun u1 y0 hu1 hy0 => by
                obtain ⟨e1, e2, e3⟩ := rd h
                unfold w_L_isSo_463 w_L_isSo_539 w_L_isSo_544 w_L_isSo_536 w_L_isSo_539 w_L_isSo_544
                rw [e1, e2]
                intro v84 e84
                rw [hy0] at e84
                have ewd : g 103 (nt (g 123 (nt x))) * g 104 (nt (g 123 (nt x))) = wd g x := rfl
                rw [ewd]
                refine ⟨fun z => absurd z (by decide), fun _ => ⟨vs, vh, fun z => nx S m u1 v84 h (by omega) hu1 e84, fun z => ⟨by lia, by lia, ?_⟩⟩⟩
                have hkw : k < g 103 (nt (g 123 (nt x))) * g 104 (nt (g 123 (nt x))) := by rw [ewd]; lia
                obtain ⟨k3, k4⟩ := div_lt k0 (by lia) ⟨by lia, by lia⟩ (by lia) hkw
                obtain ⟨k5, k6⟩ := rmz (d := g 104 (nt (g 123 (nt x)))) k0 (by lia)
                have eP : isP g x (k / g 104 (nt (g 123 (nt x)))) (k - k / g 104 (nt (g 123 (nt x))) * g 104 (nt (g 123 (nt x)))) := ⟨hs, k3, k4, k5, k6⟩
                have epl : pla g x (k / g 104 (nt (g 123 (nt x)))) (k - k / g 104 (nt (g 123 (nt x))) * g 104 (nt (g 123 (nt x)))) = k := by
                  unfold pla
                  generalize k / g 104 (nt (g 123 (nt x))) = z9
                  rw [Int32.mul_comm]
                  lia
                have er : rSeat g x (k / g 104 (nt (g 123 (nt x)))) (k - k / g 104 (nt (g 123 (nt x))) * g 104 (nt (g 123 (nt x)))) = (0, plv g x k, g) := by
                  unfold rSeat
                  rw [if_pos eP, epl]
                refine cls_seat h.1 hI h.2.2.2.2 (by omega) (RA_k h er (fun S1 h1 => ?_))
                have go : ∀ y : Int32, plv g x k = y → ((plv g x k = y → w_L_isSo_416 (fun x11 x12 x15 x16 S => w_L_isSo_374 Q (d + 1) x11 x12 x15 x16 S) Q (e + 1) a b 1 x u1 v84 0 (g 104 (nt (g 123 (nt x)))) (k + 1) S1) ∧ (¬ plv g x k = y → w_L_isSo_543 (fun x11 x12 x15 x16 S => w_L_isSo_374 Q (d + 1) x11 x12 x15 x16 S) (fun x11 x12 x15 x16 x17 x18 x19 x20 x21 S => w_L_isSo_416 (fun x11 x12 x15 x16 S => w_L_isSo_374 Q (d + 1) x11 x12 x15 x16 S) Q (e + 1) x11 x12 x15 x16 x17 x18 x19 x20 x21 S) Q a b x u1 v84 0 (g 104 (nt (g 123 (nt x)))) k S1)) := fun y hy => ⟨fun _ => nx S1 (m + 1) u1 v84 h1 (Nat.le_refl _) hu1 e84, fun z => absurd hy z⟩
                refine ⟨fun z3 => ⟨fun z4 => go _ ?_, fun z4 => go _ ?_⟩, fun z3 => go _ ?_⟩
                · have hz : v89 = 0 := by lia
                  obtain ⟨y1, y2⟩ := a1.mp hz
                  unfold plv
                  rw [if_pos y1, if_pos y2]
                · obtain ⟨y1, y2⟩ := a3.mp (by lia)
                  unfold plv
                  rw [if_pos y1, if_neg y2, e89]
                  unfold eA
                  rw [if_pos y1, if_neg y2]; lia
                · have y1 := a2.mp (by lia)
                  unfold plv
                  rw [if_neg y1, e89]
                  unfold eA
                  rw [if_neg y1]; lia
              have f448 : ∀ y0 : Int32, y0 = (if g 126 (nt (48 * x + k)) = -1 then 0 else 1) → w_L_isSo_448 (fun x11 x12 x15 x16 S => w_L_isSo_374 Q (d + 1) x11 x12 x15 x16 S) (fun x11 x12 x15 x16 x17 x18 x19 x20 x21 S => w_L_isSo_416 (fun x11 x12 x15 x16 S => w_L_isSo_374 Q (d + 1) x11 x12 x15 x16 S) Q (e + 1) x11 x12 x15 x16 x17 x18 x19 x20 x21 S) Q a b 1 x v2 0 (g 104 (nt (g 123 (nt x)))) k v89 y0 v1 S := fun y0 hy0 => by
                unfold w_L_isSo_448
                rintro v88 rfl
                refine ⟨fun z => f463 _ 0 (by rw [hy0]) ?_, fun z => f463 _ 1 (by rw [hy0]) ?_⟩
                · by_cases y2 : g 127 (nt (48 * x + k)) = -1
                  · rw [if_pos y2]
                  · exfalso
                    have y1 : g 126 (nt (48 * x + k)) = -1 := by
                      by_cases w : g 126 (nt (48 * x + k)) = -1
                      · exact w
                      · exact absurd (t3 w) y2
                    have := a3.mpr ⟨y1, y2⟩
                    lia
                · rw [if_neg (a3.mp (by lia)).2]
              refine ⟨fun z => f448 0 ?_, fun z => f448 1 ?_⟩
              · by_cases y1 : g 126 (nt (48 * x + k)) = -1
                · rw [if_pos y1]
                · exfalso; have := a2.mpr y1; lia
              · rw [if_neg (a2.mp (by lia))]
            · have ek : k = 12 := by lia
              rw [ek, show nt 12 = 12 by decide] at h1 h2
              rw [h1, h2]
              exact ⟨fun _ => endP S m h (by omega), fun z => absurd (by lia) z⟩
        obtain ⟨e1, e2, e3⟩ := rd h
        rw [e1, e3]
        refine ⟨vd, fun z => absurd z (by lia), fun _ => ⟨fun z => absurd z (by decide), fun _ => ⟨vs, vh, ?_⟩⟩⟩
        rintro v90 rfl
        exact ⟨13, LP 12 0 0 0 S m (by decide) (by decide) (by decide) h (by omega) (by rw [show nt 0 = 0 by decide]; rfl) (by rw [show nt 0 = 0 by decide]; rfl)⟩
      · exact ⟨vd, fun _ => O_film h hC (by omega) hM p7 p8 q, fun z => absurd (by lia) z⟩
  have n8 := nt_le (x := g 321 0) (n := 5) (by decide) (show g 321 0 ≤ 5 from b4)
  unfold w_L_isSo_371
  exact ⟨nt (g 321 0) + 1, LA (nt (g 321 0)) 0 S m (by decide) (by rw [nI_nt0 n2.1]; lia) n2.1 h (by omega)⟩
end O3
