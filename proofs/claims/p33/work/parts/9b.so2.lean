/-! isSo: tickets, films -/
section O2
variable {n m C M : Nat} {g : Gm} {S T : Sg} {s f w : Int32} {Q : Nat → Int32 → Sg → Prop}
theorem O_end (h : RA m C g S) (hm : m + 1 ≤ M) (hM : M ≤ 20000) (q : ∀ T, RA M C g T → Q 0 1 T) : w_L_isSo_1256 Q 1 S := by
  have hx := h.2.2.1.1
  unfold w_L_isSo_1256
  rw [lg_7 hx]
  have er : rAudit g 0 (g 336 0) = (3, 0, g) := by
    unfold rAudit
    rw [if_neg (fun z => by have := z.2.2; lia)]
  exact ⟨fun z => absurd z (by decide), fun _ => ⟨vd, dz_20 h.1 h.2.1 h.2.2.2.2 (by omega) (RA_go (lS_rf h) (by rw [er]) h.2.1 h.2.2.2.1 (v := -3000000) (by rw [er, dva_3]) (fun S2 r2 => kz ⟨fun _ => q S2 (RA_le hm r2), fun z => absurd rfl z⟩))⟩⟩
theorem ot_0 {t : Int32} (ht : isX g 336 t) : rOfTicket g t 0 = (0, g 137 (nt t), g) := by unfold rOfTicket; rw [if_pos ⟨ht, by decide⟩, if_pos rfl]
theorem ot_1 {t : Int32} (ht : isX g 336 t) : rOfTicket g t 1 = (0, g 138 (nt t) / g 104 (nt (g 123 (nt (g 137 (nt t))))), g) := by unfold rOfTicket; rw [if_pos ⟨ht, by decide⟩, if_neg (by decide), if_pos rfl]
theorem ot_2 {t : Int32} (ht : isX g 336 t) : rOfTicket g t 2 = (0, g 138 (nt t) - g 138 (nt t) / g 104 (nt (g 123 (nt (g 137 (nt t))))) * g 104 (nt (g 123 (nt (g 137 (nt t))))), g) := by unfold rOfTicket; rw [if_pos ⟨ht, by decide⟩, if_neg (by decide), if_neg (by decide), if_pos rfl]
theorem ot_3 {t : Int32} (ht : isX g 336 t) : rOfTicket g t 3 = (0, g 139 (nt t), g) := by unfold rOfTicket; rw [if_pos ⟨ht, by decide⟩, if_neg (by decide), if_neg (by decide), if_neg (by decide), if_pos rfl]
theorem ot_4 {t : Int32} (ht : isX g 336 t) : rOfTicket g t 4 = (0, g 140 (nt t), g) := by unfold rOfTicket; rw [if_pos ⟨ht, by decide⟩, if_neg (by decide), if_neg (by decide), if_neg (by decide), if_neg (by decide), if_pos rfl]
theorem ot_5 {t : Int32} (ht : isX g 336 t) : rOfTicket g t 5 = (0, (if g 141 (nt t) = 0 then 0 else 1), g) := by unfold rOfTicket; rw [if_pos ⟨ht, by decide⟩, if_neg (by decide), if_neg (by decide), if_neg (by decide), if_neg (by decide), if_neg (by decide)]
theorem O_tick {b : Int32} (h : RA m C g S) (hC : C ≤ 511) (hm : m + 8 ≤ M) (hM : M ≤ 20000) (p8 : 0 ≤ b) (q : ∀ T, RA M C g T → Q 0 1 T) : w_L_isSo_1032 Q b 1 S := by
  have hI := h.2.1
  have hB := h.2.2.2.1
  have b1 := lb_1 hB
  obtain ⟨c302, c307, c316, b4, c331⟩ := lb_1 hB
  have n3 := n336 (i_n hI)
  have n63 := n336_le hB hC n3.1
  have hx := h.2.2.1.1
  unfold w_L_isSo_1032
  rw [lg_7 hx]
  refine ⟨vd, ?_⟩
  rintro v26 rfl
  refine ⟨fun _ => O_end h (by omega) hM q, fun z => ⟨fun y => absurd y (by decide), fun _ => ⟨vd, by lia, ?_⟩⟩⟩
  intro v27 e27
  obtain ⟨a0, a1⟩ := rmz (d := g 336 0) p8 (by lia)
  rw [← e27] at a0 a1
  clear e27
  have ht : isX g 336 v27 := ⟨a0, a1⟩
  obtain ⟨d1, d2, d3, d4, d5, d6, d7, d8⟩ := t_all hx hI.1 hB a0 a1
  obtain ⟨s0, s1, -, -, o141, -⟩ := ia_t hI.1 v27 a0 a1
  obtain ⟨-, -, hh0, hh1, -⟩ := ia_s hI.1 _ s0 s1
  obtain ⟨e1, e2⟩ := h_all hx hI.1 hh0 hh1
  obtain ⟨-, -, r5, -⟩ := ia_h hI.1 _ hh0 hh1
  have vt : vp_in v27 64 := va a0 (by show _ < 64; lia)
  rw [d1, w_h hx hI.1 b1 s0 s1, e2]
  refine ⟨vt, va s0 (by show _ < 11; lia), va hh0 (by show _ < 7; lia), ?_⟩
  rintro v28 rfl
  have fin : ∀ x : Int32, x = sm (fun t => if v27 ≤ t then g 140 (nt t) else 0) (nt (g 336 0)) → (w_X7_ofTicket v27 0 S (fun k6 v5 S4 => (k6 = 0 → (vp_in v27 64 ∧ ((v5 = ((S4.1 108 (nt v27)) - (S4.1 108 (nt v27)) / 8 * 8) → (w_X7_ofTicket v27 1 S4 (fun k9 v8 S7 => (k9 = 0 → (vp_in v27 64 ∧ (¬ g 104 (nt (g 123 (nt (g 137 (nt v27))))) = 0 ∧ ((v8 = ((((S7.1 108 (nt v27)) / 8) - ((S7.1 108 (nt v27)) / 8) / 16 * 16) / g 104 (nt (g 123 (nt (g 137 (nt v27)))))) → (w_X7_ofTicket v27 2 S7 (fun k12 v11 S10 => (k12 = 0 → (vp_in v27 64 ∧ (¬ g 104 (nt (g 123 (nt (g 137 (nt v27))))) = 0 ∧ ((v11 = ((((S10.1 108 (nt v27)) / 8) - ((S10.1 108 (nt v27)) / 8) / 16 * 16) - (((S10.1 108 (nt v27)) / 8) - ((S10.1 108 (nt v27)) / 8) / 16 * 16) / g 104 (nt (g 123 (nt (g 137 (nt v27))))) * g 104 (nt (g 123 (nt (g 137 (nt v27)))))) → (w_X7_ofTicket v27 3 S10 (fun k15 v14 S13 => (k15 = 0 → (vp_in v27 64 ∧ ((v14 = (((S13.1 108 (nt v27)) / 128) - ((S13.1 108 (nt v27)) / 128) / 128 * 128) → (w_X7_ofTicket v27 4 S13 (fun k18 v17 S16 => (k18 = 0 → (vp_in v27 64 ∧ ((v17 = (S16.1 109 (nt v27)) → (w_X7_ofTicket v27 5 S16 (fun k21 v20 S19 => (k21 = 0 → (vp_in v27 64 ∧ ((v20 = ((S19.1 108 (nt v27)) / 16384) → (w_X7_audit v27 (g 336 0 - 1) S19 (fun k24 v23 S22 => (k24 = 0 → ((v23 = x → w_L_isSo_1254 Q 1 S22) ∧ (¬ v23 = x → w_L_isSo_1253 Q S22))) ∧ (¬ k24 = 0 → Q k24 0 S22)))) ∧ (¬ v20 = ((S19.1 108 (nt v27)) / 16384) → w_L_isSo_1253 Q S19)))) ∧ (¬ k21 = 0 → Q k21 0 S19)))) ∧ (¬ v17 = (S16.1 109 (nt v27)) → w_L_isSo_1253 Q S16)))) ∧ (¬ k18 = 0 → Q k18 0 S16)))) ∧ (¬ v14 = (((S13.1 108 (nt v27)) / 128) - ((S13.1 108 (nt v27)) / 128) / 128 * 128) → w_L_isSo_1253 Q S13)))) ∧ (¬ k15 = 0 → Q k15 0 S13)))) ∧ (¬ v11 = ((((S10.1 108 (nt v27)) / 8) - ((S10.1 108 (nt v27)) / 8) / 16 * 16) - (((S10.1 108 (nt v27)) / 8) - ((S10.1 108 (nt v27)) / 8) / 16 * 16) / g 104 (nt (g 123 (nt (g 137 (nt v27))))) * g 104 (nt (g 123 (nt (g 137 (nt v27)))))) → w_L_isSo_1253 Q S10))))) ∧ (¬ k12 = 0 → Q k12 0 S10)))) ∧ (¬ v8 = ((((S7.1 108 (nt v27)) / 8) - ((S7.1 108 (nt v27)) / 8) / 16 * 16) / g 104 (nt (g 123 (nt (g 137 (nt v27)))))) → w_L_isSo_1253 Q S7))))) ∧ (¬ k9 = 0 → Q k9 0 S7)))) ∧ (¬ v5 = ((S4.1 108 (nt v27)) - (S4.1 108 (nt v27)) / 8 * 8) → w_L_isSo_1253 Q S4)))) ∧ (¬ k6 = 0 → Q k6 0 S4))) := fun x ex => by
    refine cls_ofTicket h.1 hI h.2.2.2.2 (by omega) (RA_k h (ot_0 ht) (fun S1 h1 => ⟨vt, ?_⟩))
    rw [(t_all h1.2.2.1.1 hI.1 hB a0 a1).1]
    refine ⟨fun _ => ?_, fun z => absurd rfl z⟩
    refine cls_ofTicket h1.1 hI h1.2.2.2.2 (by omega) (RA_k h1 (ot_1 ht) (fun S2 h2 => ⟨vt, by lia, ?_⟩))
    rw [(t_all h2.2.2.1.1 hI.1 hB a0 a1).2.1]
    refine ⟨fun _ => ?_, fun z => absurd rfl z⟩
    refine cls_ofTicket h2.1 hI h2.2.2.2.2 (by omega) (RA_k h2 (ot_2 ht) (fun S3 h3 => ⟨vt, by lia, ?_⟩))
    rw [(t_all h3.2.2.1.1 hI.1 hB a0 a1).2.1]
    refine ⟨fun _ => ?_, fun z => absurd rfl z⟩
    refine cls_ofTicket h3.1 hI h3.2.2.2.2 (by omega) (RA_k h3 (ot_3 ht) (fun S4 h4 => ⟨vt, ?_⟩))
    rw [(t_all h4.2.2.1.1 hI.1 hB a0 a1).2.2.1]
    refine ⟨fun _ => ?_, fun z => absurd rfl z⟩
    refine cls_ofTicket h4.1 hI h4.2.2.2.2 (by omega) (RA_k h4 (ot_4 ht) (fun S5 h5 => ⟨vt, ?_⟩))
    rw [(t_all h5.2.2.1.1 hI.1 hB a0 a1).2.2.2.2.2.1]
    refine ⟨fun _ => ?_, fun z => absurd rfl z⟩
    refine cls_ofTicket h5.1 hI h5.2.2.2.2 (by omega) (RA_k h5 (ot_5 ht) (fun S6 h6 => ⟨vt, ?_⟩))
    rw [(t_all h6.2.2.1.1 hI.1 hB a0 a1).2.2.2.1]
    have e5 : (if g 141 (nt v27) = 0 then (0 : Int32) else 1) = g 141 (nt v27) := by
      rcases o141 with o | o
      · rw [if_pos o, o]
      · rw [o]; decide
    refine ⟨fun _ => ?_, fun z => absurd e5 z⟩
    have ea : rAudit g v27 (g 336 0 - 1) = (0, x, g) := by
      unfold rAudit
      rw [if_pos ⟨ht, by lia, by lia⟩, if_neg (by lia), show g 336 0 - 1 + 1 = g 336 0 by lia, ← ex]
    refine cls_audit h6.1 hI h6.2.2.2.2 (by omega) (RA_k h6 ea (fun S7 h7 => ⟨fun _ => ?_, fun z => absurd rfl z⟩))
    unfold w_L_isSo_1254
    exact O_end h7 (by omega) hM q
  have L : ∀ (d : Nat) (k x : Int32), v27 ≤ k → k + nI d = g 336 0 → k ≤ g 336 0 → x = sm (fun t => if v27 ≤ t then g 140 (nt t) else 0) (nt k) → w_L_isSo_1090 Q (d + 1) (g 336 0 - 1) v27 (g 104 (nt (g 123 (nt (g 137 (nt v27)))))) x k S := by
    intro d
    induction d with
    | zero =>
      intro k x k0 k1 k2 ex
      have ek : k = g 336 0 := by rw [← k1]; show k = k + 0; lia
      rw [w_L_isSo_1090]
      exact ⟨fun _ => fin x (by rw [ex, ek]), fun z => absurd (by lia) z⟩
    | succ d ih =>
      intro k x k0 k1 k2 ex
      rw [nI1] at k1
      rw [w_L_isSo_1090]
      refine ⟨fun z => fin x (by rw [ex, show k = g 336 0 by lia]), fun z => ⟨va (by lia) (by show _ < 64; lia), ?_⟩⟩
      rw [((lx_t hx) k (by lia) (by lia)).2]
      rintro v25 rfl
      refine ih (k + 1) _ (by lia) (by lia) (by lia) ?_
      rw [sm_succ (by lia) (by lia), ← ex, if_pos k0]
  have en : nI (nt (g 336 0 - v27)) = g 336 0 - v27 := nI_nt0 (by lia)
  exact ⟨nt (g 336 0 - v27) + 1, L (nt (g 336 0 - v27)) v27 0 (by lia) (by rw [en]; lia) (by lia) (sm_from a0).symm⟩
theorem O_film {a b : Int32} (h : RA m C g S) (hC : C ≤ 511) (hm : m + 20 ≤ M) (hM : M ≤ 20000) (p7 : 0 ≤ a) (p8 : 0 ≤ b) (q : ∀ T, RA M C g T → Q 0 1 T) : w_L_isSo_768 Q a b 1 S := by
  have hI := h.2.1
  have hB := h.2.2.2.1
  have b1 := lb_1 hB
  obtain ⟨c302, c307, c316, b4, c331⟩ := lb_1 hB
  have n3 := n336 (i_n hI)
  obtain ⟨-, -, -, -, -, -, n7, -⟩ := i_n hI
  obtain ⟨w0, w1⟩ := rmz (d := 3) p7 (by decide)
  have L : ∀ (d : Nat) (x : Int32) (S : Sg) (m : Nat), 0 ≤ x → x + nI d = g 307 0 → x ≤ g 307 0 → RA m C g S → m + 4 * d + 8 ≤ M → w_L_isSo_771 Q (d + 1) a b 1 x S := by
    intro d
    induction d with
    | zero =>
      intro x S m x0 x1 x2 h hm
      have ex : x = g 307 0 := by rw [← x1]; show x = x + 0; lia
      rw [w_L_isSo_771, lg_3 h.2.2.1.1]
      exact ⟨vd, fun _ => O_tick h hC (by omega) hM p8 q, fun z => absurd (by lia) z⟩
    | succ d ih =>
      intro x S m x0 x1 x2 h hm
      rw [nI1] at x1
      rw [w_L_isSo_771, lg_3 h.2.2.1.1]
      by_cases hlt : x < g 307 0
      · have hx := h.2.2.1.1
        have hf : isX g 307 x := ⟨x0, hlt⟩
        refine ⟨vd, fun z => absurd z (by lia), fun _ => ⟨fun z => absurd z (by decide), fun _ => ?_⟩⟩
        intro v43 e43
        rw [← e43] at w0 w1
        clear e43
        obtain ⟨-, -, -, y3, y5⟩ := (lx_f hx).1 x x0 hlt
        obtain ⟨y4, y6, y7⟩ := (lx_f hx).2 x x0 (by lia)
        obtain ⟨tk0, tk1⟩ := tkn_rng hI.1 (f := x) (w := v43)
        have hw9 : inr v43 0 9 := ⟨w0, by lia⟩
        have et : rTakings g x v43 = (0, tkn g x v43, g) := by unfold rTakings; rw [if_pos hf, if_pos hw9]
        have es : rShare g x v43 = (0, own g x v43 (tkn g x v43), g) := by unfold rShare; rw [if_pos hf, if_pos hw9]
        have em : rStay g x v43 = (0, (if opn g x ≠ -1 ∧ g 115 (nt x) ≤ tkn g x v43 then 1 else 0), g) := by unfold rStay; rw [if_pos hf, if_pos hw9]
        have tz : opn g x = -1 → tkn g x v43 = 0 := fun z => by
          unfold tkn
          exact sm_zero _ (nt_lt32 _) (fun s _ _ => by rw [if_neg (fun y => y.1 z)])
        have v3 : vp_in (8 * x + 3) 24 := va (by lia) (by show _ < 24; lia)
        have v4 : vp_in (8 * x + 4) 24 := va (by lia) (by show _ < 24; lia)
        have v5 : vp_in (8 * x + 5) 24 := va (by lia) (by show _ < 24; lia)
        have v6 : vp_in (8 * x + 6) 24 := va (by lia) (by show _ < 24; lia)
        have v7 : vp_in (8 * x + 7) 24 := va (by lia) (by show _ < 24; lia)
        -- whether it must stay
        have f980 : ∀ (its y : Int32) (S4 : Sg), its = (if opn g x = -1 then -1 else tkn g x v43) → RA (m + 3) C g S4 → w_L_isSo_980 (fun x11 x12 x15 x16 S => w_L_isSo_771 Q (d + 1) x11 x12 x15 x16 S) Q a b x v43 its y y S4 := fun its y S4 hits h4 => by
          unfold w_L_isSo_980
          refine ⟨fun _ => cls_mustStay h4.1 hI h4.2.2.2.2 (by omega) (RA_k h4 em (fun S5 h5 => ⟨v7, ?_⟩)), fun z => absurd rfl z⟩
          rw [((lx_f h5.2.2.1.1).2 x x0 (by lia)).2.2]
          have go : ∀ y : Int32, y = (if opn g x ≠ -1 ∧ g 115 (nt x) ≤ tkn g x v43 then (1 : Int32) else 0) → w_L_isSo_1016 (fun x11 x12 x15 x16 S => w_L_isSo_771 Q (d + 1) x11 x12 x15 x16 S) Q a b x y (if opn g x ≠ -1 ∧ g 115 (nt x) ≤ tkn g x v43 then (1 : Int32) else 0) S5 := fun y hy => by
            unfold w_L_isSo_1016 w_L_isSo_1024
            exact ⟨fun _ => ih (x + 1) S5 (m + 4) (by lia) (by lia) (by lia) h5 (by omega), fun z => absurd hy.symm z⟩
          unfold w_L_isSo_1015
          refine ⟨fun z => go 0 ?_, fun z => ⟨fun y => go 0 ?_, fun y => go 1 ?_⟩⟩
          · rw [if_neg]
            rintro ⟨o1, o2⟩
            rw [hits, if_neg o1] at z
            lia
          · rw [if_neg]
            rintro ⟨o1, o2⟩
            rw [hits, if_neg o1] at y
            lia
          · rw [if_pos]
            by_cases o1 : opn g x = -1
            · rw [hits, if_pos o1] at y; exact absurd (by decide) y
            · rw [hits, if_neg o1] at z
              exact ⟨o1, by lia⟩
        -- the owners' part
        have f913 : ∀ (its ab : Int32), its = (if opn g x = -1 then -1 else tkn g x v43) → own g x v43 (tkn g x v43) = (if ab ≤ g 113 (nt x) * tkn g x v43 / 100 then g 113 (nt x) * tkn g x v43 / 100 else ab) → w_L_isSo_913 (fun x11 x12 x15 x16 S => w_L_isSo_771 Q (d + 1) x11 x12 x15 x16 S) Q a b x v43 its (tkn g x v43) ab S := fun its ab hits hab => by
          unfold w_L_isSo_913
          rw [y5]
          refine ⟨v5, ?_⟩
          rintro v32 rfl
          refine cls_takings h.1 hI h.2.2.2.2 (by omega) (RA_k h et (fun S2 h2 => ⟨fun _ => ?_, fun z => absurd rfl z⟩))
          refine cls_takingsAnew h2.1 hI h2.2.2.2.2 (by omega) (RA_k h2 et (fun S3 h3 => ⟨fun _ => ?_, fun z => absurd rfl z⟩))
          refine cls_share h3.1 hI h3.2.2.2.2 (by omega) (RA_k h3 es (fun S4 h4 => ⟨fun z => ?_, fun z => ?_⟩))
          · rw [hab, if_pos z]; exact f980 its _ S4 hits h4
          · rw [hab, if_neg z]; exact f980 its _ S4 hits h4
        have f873 : ∀ (its P : Int32), its = (if opn g x = -1 then -1 else tkn g x v43) → P = (if g 113 (nt x) ≤ g 111 (nt x) - v43 * g 112 (nt x) then g 111 (nt x) - v43 * g 112 (nt x) else g 113 (nt x)) → w_L_isSo_873 (fun x11 x12 x15 x16 S => w_L_isSo_771 Q (d + 1) x11 x12 x15 x16 S) Q a b x v43 its (tkn g x v43) P S := fun its P hits hP => by
          unfold w_L_isSo_873
          rw [y6]
          refine ⟨v6, fun z => f913 its 0 hits ?_, fun z => ⟨v6, f913 its _ hits ?_⟩⟩
          · unfold own
            dsimp only
            rw [← hP, if_pos z, Int32.mul_zero]
            rfl
          · unfold own
            dsimp only
            rw [← hP, if_neg z]
        have f819 : ∀ its : Int32, its = (if opn g x = -1 then -1 else tkn g x v43) → w_L_isSo_819 (fun x11 x12 x15 x16 S => w_L_isSo_771 Q (d + 1) x11 x12 x15 x16 S) Q a b x v43 its (tkn g x v43) S := fun its hits => by
          unfold w_L_isSo_819
          rw [y3, y4, y5]
          refine ⟨v3, v4, ?_⟩
          rintro v42 rfl
          refine ⟨v5, fun z => ⟨v5, f873 its _ hits ?_⟩, fun z => f873 its _ hits ?_⟩
          · split
            · lia
            · rfl
          · rw [if_pos (by lia)]
        refine Ltakings hx hI.1 hB hC (kz ⟨fun z => ?_, fun z => ?_⟩)
        · have o1 : ¬ opn g x = -1 := fun y => by rw [if_pos y] at z; exact absurd z (by decide)
          have := f819 _ rfl
          rw [if_neg o1] at this ⊢
          exact this
        · have o1 : opn g x = -1 := by
            by_cases y : opn g x = -1
            · exact y
            · rw [if_neg y] at z; exact absurd tk0 z
          have key : ∀ its : Int32, its = (if opn g x = -1 then -1 else tkn g x v43) → w_L_isSo_819 (fun x11 x12 x15 x16 S => w_L_isSo_771 Q (d + 1) x11 x12 x15 x16 S) Q a b x v43 its 0 S := fun its hi => by
            have := f819 its hi
            rw [tz o1] at this
            exact this
          exact key _ rfl
      · exact ⟨vd, fun _ => O_tick h hC (by omega) hM p8 q, fun z => absurd (by lia) z⟩
  have n8 := nt_le (x := g 307 0) (n := 3) (by decide) (show g 307 0 ≤ 3 from c307)
  unfold w_L_isSo_768
  exact ⟨nt (g 307 0) + 1, L (nt (g 307 0)) 0 S m (by decide) (by rw [nI_nt0 n7]; lia) n7 h (by omega)⟩
end O2
