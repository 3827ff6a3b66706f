/-! isSo: halls, all; whole -/
section O4
variable {n m C M : Nat} {g : Gm} {S T : Sg} {s f w : Int32} {Q : Nat → Int32 → Sg → Prop}
theorem oh_0 {h' : Int32} (hs : isX g 302 h') : rOfHall g h' 0 = (0, g 103 (nt h') * g 104 (nt h'), g) := by unfold rOfHall; rw [if_pos ⟨hs, by decide⟩, if_pos rfl]
theorem oh_1 {h' : Int32} (hs : isX g 302 h') : rOfHall g h' 1 = (0, g 105 (nt h'), g) := by unfold rOfHall; rw [if_pos ⟨hs, by decide⟩, if_neg (by decide), if_pos rfl]
theorem oh_2 {h' : Int32} (hs : isX g 302 h') : rOfHall g h' 2 = (0, g 106 (nt h'), g) := by unfold rOfHall; rw [if_pos ⟨hs, by decide⟩, if_neg (by decide), if_neg (by decide), if_pos rfl]
theorem oh_3 {h' : Int32} (hs : isX g 302 h') : rOfHall g h' 3 = (0, rnn g h' (nt (g 321 0)), g) := by unfold rOfHall; rw [if_pos ⟨hs, by decide⟩, if_neg (by decide), if_neg (by decide), if_neg (by decide)]
theorem O_hall {a b : Int32} (h : RA m C g S) (hC : C ≤ 511) (hm : m + 140 ≤ M) (hM : M ≤ 20000) (h9 : g 300 0 ≤ 90000) (p7 : 0 ≤ a) (p8 : 0 ≤ b) (q : ∀ T, RA M C g T → Q 0 1 T) : w_L_isSo_137 Q a b 1 S := by
  have hI := h.2.1
  have hB := h.2.2.2.1
  have b1 := lb_1 hB
  obtain ⟨c302, c307, c316, b4, c331⟩ := lb_1 hB
  have n2 := n321 (i_n hI)
  obtain ⟨m0, m1, -, -, n5, -, n7, -⟩ := i_n hI
  obtain ⟨k0, k1⟩ := rmz (d := 900) p8 (by decide)
  have n73 := nt_le (x := g 307 0) (n := 3) (by decide) (show g 307 0 ≤ 3 from c307)
  have LA : ∀ (d : Nat) (x : Int32) (S : Sg) (m : Nat), 0 ≤ x → x + nI d = g 302 0 → x ≤ g 302 0 → RA m C g S → m + 7 * d + 125 ≤ M → w_L_isSo_142 Q (d + 1) a b 1 x S := by
    intro d
    induction d with
    | zero =>
      intro x S m x0 x1 x2 h hm
      rw [w_L_isSo_142, lg_2 h.2.2.1.1]
      have ex : x = g 302 0 := by rw [← x1]; show x = x + 0; lia
      exact ⟨vd, fun _ => O_show h hC (by omega) hM p7 p8 q, fun z => absurd (by lia) z⟩
    | succ d ih =>
      intro x S m x0 x1 x2 h hm
      rw [nI1] at x1
      rw [w_L_isSo_142, lg_2 h.2.2.1.1]
      by_cases hlt : x < g 302 0
      · have hh : isX g 302 x := ⟨x0, hlt⟩
        have v0 : vp_in x 7 := va x0 (by show _ < 7; lia)
        have v2 : vp_in (2 + x) 7 := va (by lia) (by show _ < 7; lia)
        have v4 : vp_in (4 + x) 7 := va (by lia) (by show _ < 7; lia)
        refine ⟨vd, fun z => absurd z (by lia), fun _ => ⟨fun z => absurd z (by decide), fun _ => ?_⟩⟩
        -- what fits, film by film
        have LF : ∀ (e : Nat) (k : Int32) (S : Sg) (m : Nat), 0 ≤ k → k + nI e = g 307 0 → k ≤ g 307 0 → RA m C g S → m + e + 7 * d + 125 ≤ M → w_L_isSo_290 (fun x11 x12 x15 x16 S => w_L_isSo_142 Q (d + 1) x11 x12 x15 x16 S) Q (e + 1) a b 1 x k S := by
          intro e
          induction e with
          | zero =>
            intro k S m k0 k1 k2 h hm
            have ek : k = g 307 0 := by rw [← k1]; show k = k + 0; lia
            rw [w_L_isSo_290, lg_3 h.2.2.1.1]
            unfold w_L_isSo_365
            exact ⟨vd, fun _ => ih (x + 1) S m (by lia) (by lia) (by lia) h (by omega), fun z => absurd (by lia) z⟩
          | succ e ihe =>
            intro k S m k0 k1 k2 h hm
            rw [nI1] at k1
            rw [w_L_isSo_290, lg_3 h.2.2.1.1, lg_0 h.2.2.1.1]
            by_cases hkt : k < g 307 0
            · have hf : isX g 307 k := ⟨k0, hkt⟩
              refine ⟨vd, fun z => absurd z (by lia), fun _ => ⟨fun z => absurd z (by decide), fun _ => ⟨vd, ?_⟩⟩⟩
              intro v91 e91
              have hv : inr v91 (g 300 0 + 1) 100000 := ⟨by lia, by lia⟩
              have er : rFits g k x v91 = (0, rsn g k x v91, g) := by
                unfold rFits
                rw [if_pos ⟨hf, hh⟩, if_pos hv]
              refine dz_16 h.1 h.2.1 h.2.2.2.2 (by omega) (RA_go (lS_rf h) (by rw [er]) h.2.1 h.2.2.2.1 (v := rsn g k x v91) (by rw [er, dva_0]) (fun S2 r2 => kz ?_))
              refine Lfits r2.2.2.1.1 hI.1 hB hf hh ⟨by have := hv.1; lia, by have := hv.2; lia⟩ (kz ⟨fun _ => ?_, fun z => absurd rfl z⟩)
              unfold w_L_isSo_357
              exact ihe (k + 1) S2 (m + 1) (by lia) (by lia) (by lia) r2 (by omega)
            · unfold w_L_isSo_365
              exact ⟨vd, fun _ => ih (x + 1) S m (by lia) (by lia) (by lia) h (by omega), fun z => absurd (by lia) z⟩
        have LR9 : ∀ (e : Nat) (k r : Int32) (S : Sg) (m : Nat), 0 ≤ k → k + nI e = g 321 0 → k ≤ g 321 0 → RA m C g S → m + 7 + 7 * d + 125 ≤ M → r = rnn g x (nt k) → w_L_isSo_162 (fun x11 x12 x15 x16 S => w_L_isSo_142 Q (d + 1) x11 x12 x15 x16 S) Q (e + 1) a b x r k S := by
          intro e
          have fin : ∀ (S : Sg) (m : Nat) (r : Int32), RA m C g S → m + 7 + 7 * d + 125 ≤ M → r = rnn g x (nt (g 321 0)) → (w_X7_ofHall x 0 S (fun k100 v99 S98 => (k100 = 0 → (vp_in x 7 ∧ (vp_in x 7 ∧ ((v99 = (((S98.1 103 (nt x)) - (S98.1 103 (nt x)) / 8 * 8) * ((S98.1 103 (nt x)) / 8)) → (w_X7_ofHall x 1 S98 (fun k103 v102 S101 => (k103 = 0 → (vp_in (2 + x) 7 ∧ ((v102 = (S101.1 103 (nt (2 + x))) → (w_X7_ofHall x 2 S101 (fun k106 v105 S104 => (k106 = 0 → (vp_in (4 + x) 7 ∧ ((v105 = (S104.1 103 (nt (4 + x))) → (w_X7_ofHall x 3 S104 (fun k109 v108 S107 => (k109 = 0 → ((v108 = r → w_L_isSo_285 (fun x11 x12 x15 x16 S => w_L_isSo_142 Q (d + 1) x11 x12 x15 x16 S) Q a b x 1 S107) ∧ (¬ v108 = r → w_L_isSo_284 (fun x11 x12 x15 x16 S => w_L_isSo_142 Q (d + 1) x11 x12 x15 x16 S) Q a b x S107))) ∧ (¬ k109 = 0 → Q k109 0 S107)))) ∧ (¬ v105 = (S104.1 103 (nt (4 + x))) → w_L_isSo_284 (fun x11 x12 x15 x16 S => w_L_isSo_142 Q (d + 1) x11 x12 x15 x16 S) Q a b x S104)))) ∧ (¬ k106 = 0 → Q k106 0 S104)))) ∧ (¬ v102 = (S101.1 103 (nt (2 + x))) → w_L_isSo_284 (fun x11 x12 x15 x16 S => w_L_isSo_142 Q (d + 1) x11 x12 x15 x16 S) Q a b x S101)))) ∧ (¬ k103 = 0 → Q k103 0 S101)))) ∧ (¬ v99 = (((S98.1 103 (nt x)) - (S98.1 103 (nt x)) / 8 * 8) * ((S98.1 103 (nt x)) / 8)) → w_L_isSo_284 (fun x11 x12 x15 x16 S => w_L_isSo_142 Q (d + 1) x11 x12 x15 x16 S) Q a b x S98))))) ∧ (¬ k100 = 0 → Q k100 0 S98))) := fun S m r h hm hr => by
            refine cls_ofHall h.1 hI h.2.2.2.2 (by omega) (RA_k h (oh_0 hh) (fun S1 h1 => ⟨v0, v0, ?_⟩))
            obtain ⟨e1, e2⟩ := h_all h1.2.2.1.1 hI.1 x0 hlt
            rw [e1, e2]
            refine ⟨fun _ => ?_, fun z => absurd rfl z⟩
            refine cls_ofHall h1.1 hI h1.2.2.2.2 (by omega) (RA_k h1 (oh_1 hh) (fun S2 h2 => ⟨v2, ?_⟩))
            rw [(lx_h h2.2.2.1.1).2 x x0 (by lia)]
            refine ⟨fun _ => ?_, fun z => absurd rfl z⟩
            refine cls_ofHall h2.1 hI h2.2.2.2.2 (by omega) (RA_k h2 (oh_2 hh) (fun S3 h3 => ⟨v4, ?_⟩))
            rw [((lx_h h3.2.2.1.1).1 x x0 hlt).2]
            refine ⟨fun _ => ?_, fun z => absurd rfl z⟩
            refine cls_ofHall h3.1 hI h3.2.2.2.2 (by omega) (RA_k h3 (oh_3 hh) (fun S4 h4 => ⟨fun _ => ?_, fun z => absurd hr.symm z⟩))
            unfold w_L_isSo_285
            exact ⟨nt (g 307 0) + 1, LF (nt (g 307 0)) 0 S4 (m + 4) (by decide) (by rw [nI_nt0 n7]; lia) n7 h4 (by omega)⟩
          induction e with
          | zero =>
            intro k r S m k0 k1 k2 h hm hr
            have ek : k = g 321 0 := by rw [← k1]; show k = k + 0; lia
            rw [w_L_isSo_162, lg_5 h.2.2.1.1]
            exact ⟨vd, fun _ => fin S m r h hm (by rw [hr, ek]), fun z => absurd (by lia) z⟩
          | succ e ihe =>
            intro k r S m k0 k1 k2 h hm hr
            rw [nI1] at k1
            rw [w_L_isSo_162, lg_5 h.2.2.1.1]
            by_cases hkt : k < g 321 0
            · have es : rnn g x (nt (k + 1)) = if g 125 (nt k) = 1 ∧ g 123 (nt k) = x then k else rnn g x (nt k) := by
                rw [ntS k0 (by lia)]
                show (if g 125 (nt (nI (nt k))) = 1 ∧ g 123 (nt (nI (nt k))) = x then nI (nt k) else rnn g x (nt k)) = _
                rw [nI_nt0 k0]
              have nx : ∀ r' : Int32, r' = (if g 125 (nt k) = 1 ∧ g 123 (nt k) = x then k else rnn g x (nt k)) → w_L_isSo_162 (fun x11 x12 x15 x16 S => w_L_isSo_142 Q (d + 1) x11 x12 x15 x16 S) Q (e + 1) a b x r' (k + 1) S := fun r' hr' =>
                ihe (k + 1) r' S m (by lia) (by lia) (by lia) h hm (by rw [es]; exact hr')
              unfold w_L_isSo_201 w_L_isSo_203
              refine ⟨vd, fun z => absurd z (by lia), fun _ => Lstate h.2.2.1.1 hI.1 b1 k0 hkt (kz ⟨fun z => ⟨va k0 (by show _ < 11; lia), ?_⟩, fun z => nx r (by rw [if_neg (fun o => z o.1)]; exact hr)⟩)⟩
              rw [w_h h.2.2.1.1 hI.1 b1 k0 hkt]
              exact ⟨fun y => nx k (by rw [if_pos ⟨z, y⟩]), fun y => nx r (by rw [if_neg (fun o => y o.2)]; exact hr)⟩
            · exact ⟨vd, fun _ => fin S m r h hm (by rw [hr, show k = g 321 0 by lia]), fun z => absurd (by lia) z⟩
        exact ⟨nt (g 321 0) + 1, LR9 (nt (g 321 0)) 0 (-1) S m (by decide) (by rw [nI_nt0 n2.1]; lia) n2.1 h (by omega) (by rw [show nt 0 = 0 by decide]; rfl)⟩
      · exact ⟨vd, fun _ => O_show h hC (by omega) hM p7 p8 q, fun z => absurd (by lia) z⟩
  have n8 := nt_le (x := g 302 0) (n := 2) (by decide) (show g 302 0 ≤ 2 from c302)
  unfold w_L_isSo_137
  exact ⟨nt (g 302 0) + 1, LA (nt (g 302 0)) 0 S m (by decide) (by rw [nI_nt0 n5]; lia) n5 h (by omega)⟩
theorem al_0 : rAll g 0 = (0, g 300 0, g) := by unfold rAll; rw [if_pos (by decide), if_pos rfl]
theorem al_1 : rAll g 1 = (0, g 321 0, g) := by unfold rAll; rw [if_pos (by decide), if_neg (by decide), if_pos rfl]
theorem al_2 : rAll g 2 = (0, g 336 0, g) := by unfold rAll; rw [if_pos (by decide), if_neg (by decide), if_neg (by decide), if_pos rfl]
theorem al_3 : rAll g 3 = (0, sm (fun k => if g 135 (nt k) = 0 then 1 else 0) (nt (g 331 0)), g) := by unfold rAll; rw [if_pos (by decide), if_neg (by decide), if_neg (by decide), if_neg (by decide), if_pos rfl]
theorem al_4 : rAll g 4 = (0, sm (fun t => g 140 (nt t)) (nt (g 336 0)), g) := by unfold rAll; rw [if_pos (by decide), if_neg (by decide), if_neg (by decide), if_neg (by decide), if_neg (by decide)]
theorem T_so {a b : Int32} (h : RA m C g S) (hC : C ≤ 511) (hm : m + 150 ≤ M) (hM : M ≤ 20000) (h9 : g 300 0 ≤ 90000) (p7 : 0 ≤ a) (p8 : 0 ≤ b) (q : ∀ T, RA M C g T → Q 0 1 T) : w_L_isSo a b S Q := by
  have hI := h.2.1
  have hB := h.2.2.2.1
  obtain ⟨c302, c307, c316, b4, c331⟩ := lb_1 hB
  have n3 := n336 (i_n hI)
  have n4 := n331 (i_n hI)
  have n63 := n336_le hB hC n3.1
  have hx := h.2.2.1.1
  have L2 : ∀ (d : Nat) (k v : Int32), 0 ≤ k → k + nI d = g 331 0 → k ≤ g 331 0 → v = sm (fun k => if g 135 (nt k) = 0 then 1 else 0) (nt k) → w_L_isSo_38 Q (d + 1) a b (sm (fun t => g 140 (nt t)) (nt (g 336 0))) v k S := by
    intro d
    have fin : ∀ v : Int32, v = sm (fun k => if g 135 (nt k) = 0 then 1 else 0) (nt (g 331 0)) → (w_X7_all 0 S (fun k116 v115 S114 => (k116 = 0 → (vp_in 0 8 ∧ ((v115 = (S114.1 112 (nt 0)) → (w_X7_all 1 S114 (fun k119 v118 S117 => (k119 = 0 → (vp_in 5 8 ∧ ((v118 = (S117.1 112 (nt 5)) → (w_X7_all 2 S117 (fun k122 v121 S120 => (k122 = 0 → (vp_in 7 8 ∧ ((v121 = (S120.1 112 (nt 7)) → (w_X7_all 3 S120 (fun k125 v124 S123 => (k125 = 0 → ((v124 = v → (w_X7_all 4 S123 (fun k128 v127 S126 => (k128 = 0 → ((v127 = (sm (fun t => g 140 (nt t)) (nt (g 336 0))) → w_L_isSo_137 Q a b 1 S126) ∧ (¬ v127 = (sm (fun t => g 140 (nt t)) (nt (g 336 0))) → w_L_isSo_136 Q a b S126))) ∧ (¬ k128 = 0 → Q k128 0 S126)))) ∧ (¬ v124 = v → w_L_isSo_136 Q a b S123))) ∧ (¬ k125 = 0 → Q k125 0 S123)))) ∧ (¬ v121 = (S120.1 112 (nt 7)) → w_L_isSo_136 Q a b S120)))) ∧ (¬ k122 = 0 → Q k122 0 S120)))) ∧ (¬ v118 = (S117.1 112 (nt 5)) → w_L_isSo_136 Q a b S117)))) ∧ (¬ k119 = 0 → Q k119 0 S117)))) ∧ (¬ v115 = (S114.1 112 (nt 0)) → w_L_isSo_136 Q a b S114)))) ∧ (¬ k116 = 0 → Q k116 0 S114))) := fun v hv => by
      refine cls_all h.1 hI h.2.2.2.2 (by omega) (RA_k h al_0 (fun S1 h1 => ⟨vd, ?_⟩))
      rw [lg_0 h1.2.2.1.1]
      refine ⟨fun _ => ?_, fun z => absurd rfl z⟩
      refine cls_all h1.1 hI h1.2.2.2.2 (by omega) (RA_k h1 al_1 (fun S2 h2 => ⟨vd, ?_⟩))
      rw [lg_5 h2.2.2.1.1]
      refine ⟨fun _ => ?_, fun z => absurd rfl z⟩
      refine cls_all h2.1 hI h2.2.2.2.2 (by omega) (RA_k h2 al_2 (fun S3 h3 => ⟨vd, ?_⟩))
      rw [lg_7 h3.2.2.1.1]
      refine ⟨fun _ => ?_, fun z => absurd rfl z⟩
      refine cls_all h3.1 hI h3.2.2.2.2 (by omega) (RA_k h3 al_3 (fun S4 h4 => ⟨fun _ => ?_, fun z => absurd hv.symm z⟩))
      refine cls_all h4.1 hI h4.2.2.2.2 (by omega) (RA_k h4 al_4 (fun S5 h5 => ⟨fun _ => ?_, fun z => absurd rfl z⟩))
      exact O_hall h5 hC (by omega) hM h9 p7 p8 q
    induction d with
    | zero =>
      intro k v k0 k1 k2 hv
      have ek : k = g 331 0 := by rw [← k1]; show k = k + 0; lia
      rw [w_L_isSo_38, lg_6 hx]
      exact ⟨vd, fun _ => fin v (by rw [hv, ek]), fun z => absurd (by lia) z⟩
    | succ d ih =>
      intro k v k0 k1 k2 hv
      rw [nI1] at k1
      rw [w_L_isSo_38, lg_6 hx]
      by_cases hlt : k < g 331 0
      · obtain ⟨d1, d2, d3, d4, d5, d6⟩ := d_all hx hI.1 hB k0 hlt
        have o135 := (ia_o hI.1 k k0 hlt).2.2.2.2.1
        rw [d3]
        unfold w_L_isSo_66
        refine ⟨vd, fun z => absurd z (by lia), fun _ => ⟨va k0 (by show _ < 48; lia), fun z => ?_, fun z => ?_⟩⟩
        · rintro v113 rfl
          exact ih (k + 1) _ (by lia) (by lia) (by lia) (by rw [sm_succ k0 (by lia), ← hv, if_neg (fun o => by rw [z] at o; exact absurd o (by decide))])
        · rintro v113 rfl
          exact ih (k + 1) _ (by lia) (by lia) (by lia) (by rw [sm_succ k0 (by lia), ← hv, if_pos (o135.resolve_right z)])
      · exact ⟨vd, fun _ => fin v (by rw [hv, show k = g 331 0 by lia]), fun z => absurd (by lia) z⟩
  have L1 : ∀ (d : Nat) (k v : Int32), 0 ≤ k → k + nI d = g 336 0 → k ≤ g 336 0 → v = sm (fun t => g 140 (nt t)) (nt k) → w_L_isSo_6 Q (d + 1) a b v k S := by
    intro d
    have fin : ∀ v : Int32, v = sm (fun t => g 140 (nt t)) (nt (g 336 0)) → ∃ n9, w_L_isSo_38 Q n9 a b v 0 0 S := fun v hv => by
      rw [hv]
      exact ⟨nt (g 331 0) + 1, L2 (nt (g 331 0)) 0 0 (by decide) (by rw [nI_nt0 n4.1]; lia) n4.1 (by rw [show nt 0 = 0 by decide]; rfl)⟩
    induction d with
    | zero =>
      intro k v k0 k1 k2 hv
      have ek : k = g 336 0 := by rw [← k1]; show k = k + 0; lia
      rw [w_L_isSo_6, lg_7 hx]
      exact ⟨vd, fun _ => fin v (by rw [hv, ek]), fun z => absurd (by lia) z⟩
    | succ d ih =>
      intro k v k0 k1 k2 hv
      rw [nI1] at k1
      rw [w_L_isSo_6, lg_7 hx]
      by_cases hlt : k < g 336 0
      · refine ⟨vd, fun z => absurd z (by lia), fun _ => ⟨va k0 (by show _ < 64; lia), ?_⟩⟩
        rw [((lx_t hx) k k0 hlt).2]
        rintro v129 rfl
        exact ih (k + 1) _ (by lia) (by lia) (by lia) (by rw [sm_succ k0 (by lia), ← hv])
      · exact ⟨vd, fun _ => fin v (by rw [hv, show k = g 336 0 by lia]), fun z => absurd (by lia) z⟩
  unfold w_L_isSo
  exact ⟨nt (g 336 0) + 1, L1 (nt (g 336 0)) 0 0 (by decide) (by rw [nI_nt0 n3.1]; lia) n3.1 (by rw [show nt 0 = 0 by decide]; rfl)⟩
end O4
