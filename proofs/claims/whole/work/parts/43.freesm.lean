/-! the reference: sells, frees, ends; letGo, giveBack, buy, sell -/
/-- a line that has moved up by one in its first m places -/
def gShp (g : Gm) (s : Int32) (m : Nat) : Gm := fun c i => if c = 128 ∧ i = nt s then g 128 (nt s) - 1 else if (c = 129 ∨ c = 130) ∧ nt (40 * s) ≤ i ∧ i < nt (40 * s) + m then g c (i + 1) else g c i
theorem shp_0 {g : Gm} {s : Int32} : gShp g s 0 = gu g 128 (nt s) (g 128 (nt s) - 1) := by
  funext c i
  unfold gShp gu
  by_cases e : c = 128 ∧ i = nt s
  · rw [if_pos e, if_pos e]
  · rw [if_neg e, if_neg e, if_neg (fun z => by omega)]
theorem shp_end {g : Gm} {s : Int32} : gShp g s (nt (g 128 (nt s) - 1)) = gShift g s := rfl
theorem shp_step {g : Gm} {s : Int32} {m : Nat} : gu (gu (gShp g s m) 129 (nt (40 * s) + m) (gShp g s m 129 (nt (40 * s) + m + 1))) 130 (nt (40 * s) + m) (gShp g s m 130 (nt (40 * s) + m + 1)) = gShp g s (m + 1) := by
  have h9 : ∀ c, c = 129 ∨ c = 130 → gShp g s m c (nt (40 * s) + m + 1) = g c (nt (40 * s) + m + 1) := fun c hc => by
    unfold gShp
    rw [if_neg (by omega), if_neg (fun z => by omega)]
  rw [h9 129 (Or.inl rfl), h9 130 (Or.inr rfl)]
  funext c i
  by_cases e1 : c = 130 ∧ i = nt (40 * s) + m
  · rw [e1.1, e1.2, gu_at]
    unfold gShp
    rw [if_neg (by omega), if_pos (by omega)]
  · rw [gu_ne (by by_cases z : c = 130; exact Or.inr (fun u => e1 ⟨z, u⟩); exact Or.inl z)]
    by_cases e2 : c = 129 ∧ i = nt (40 * s) + m
    · rw [e2.1, e2.2, gu_at]
      unfold gShp
      rw [if_neg (by omega), if_pos (by omega)]
    · rw [gu_ne (by by_cases z : c = 129; exact Or.inr (fun u => e2 ⟨z, u⟩); exact Or.inl z)]
      unfold gShp
      by_cases e3 : c = 128 ∧ i = nt s
      · rw [if_pos e3, if_pos e3]
      · rw [if_neg e3, if_neg e3]
        by_cases e4 : (c = 129 ∨ c = 130) ∧ nt (40 * s) ≤ i ∧ i < nt (40 * s) + m
        · rw [if_pos e4, if_pos (by omega)]
        · rw [if_neg e4, if_neg (by omega)]
section FM
variable {g : Gm} {S0 S : Sg} {Q : Nat → Int32 → Sg → Prop}
theorem sellsM_ok {s p a : Int32} (h : mS S0 S g) (hI : Ia g) (h0 : 0 ≤ s) (h1 : s < g 321 0) (p0 : 0 ≤ p) (p1 : p < wd g s) (hlt : g 336 0 < 400) (q : ∀ S1, mS S0 S1 (gSells g s p a) → Q 0 (g 336 0) S1) : w_X8_sells s p a S Q := by
  have n3 := n336 (ia_n hI)
  have w := wd_le (ia_h hI) (ia_s hI) h0 h1
  have vt : ∀ x, x = g 336 0 → vp_in x 400 := fun x e => by rw [e]; exact v400' n3.1 hlt
  have vp := v1440 hI ⟨h0, h1⟩ p0 (by lia)
  have hf := (i_s1 hI h0 h1).1
  have hnI := ia_n hI
  unfold w_X8_sells
  refine ⟨vt _ (h.1 _ _ m336), stm h mcA (congrArg nt (h.1 _ _ m336)) rfl fun T1 k1 => ⟨vt _ (k1.1 _ _ m336), stm k1 mcA (congrArg nt (k1.1 _ _ m336)) rfl fun T2 k2 => ⟨vt _ (k2.1 _ _ m336), stm k2 mcA (congrArg nt (k2.1 _ _ m336)) rfl fun T3 k3 => ?_⟩⟩⟩
  refine priceOf_ok2 k3.1 (by exact hnI) h0 h1 (by exact hf) (kz ⟨vt _ (k3.1 _ _ m336), stm k3 mcA (congrArg nt (k3.1 _ _ m336)) rfl fun T4 k4 => ⟨vp, stm k4 mcA rfl (k4.1 _ _ m336) fun T5 k5 => stm k5 m336 rfl (by rw [k5.1 _ _ m336]) fun T6 k6 => ?_⟩⟩)
  have e : (T6.1 336 0) - 1 = g 336 0 := by rw [k6.1 _ _ m336]; show g 336 0 + 1 - 1 = g 336 0; lia
  rw [e]
  exact q T6 k6
theorem freesM_ok {s p : Int32} (h : mS S0 S g) (hI : Ia g) (h0 : 0 ≤ s) (h1 : s < g 321 0) (p0 : 0 ≤ p) (p1 : p < wd g s) (q : ∀ S1, mS S0 S1 (gFrees g s p).2 → Q 0 (gFrees g s p).1 S1) : w_X8_frees s p S Q := by
  have n3 := n336 (ia_n hI)
  have vs := v30 (ia_n hI) h0 h1
  obtain ⟨-, -, -, -, -, -, -, -, -, -, -, b12, -⟩ := ia_n hI
  obtain ⟨-, -, -, -, -, -, -, -, r1, r2⟩ := ia_s hI s h0 h1
  unfold w_X8_frees
  rw [h.1 _ _ (mcA : mc 128), h.1 _ _ m336]
  refine ⟨vs, fun a => ?_, fun a => ⟨fun b => ?_, fun b => ?_⟩⟩
  · have e : gFrees g s p = (-1, g) := if_pos (Or.inl a)
    rw [e] at q; exact q S h
  · have e : gFrees g s p = (-1, g) := if_pos (Or.inr b)
    rw [e] at q; exact q S h
  · have e : gFrees g s p = (g 336 0, gSells (gShift g s) s p (g 129 (nt (40 * s)))) := if_neg (fun z => z.elim a b)
    rw [e] at q
    rintro v6 rfl
    refine ⟨vp_of (by lia) (by show _ < 1200; lia) (by decide), ?_⟩
    intro v7 e7
    have e7 := e7.trans (h.1 _ _ (mcA : mc 129))
    subst e7
    refine ⟨vs, vs, stm h mcA rfl rfl fun T kT => ?_⟩
    rw [← shp_0] at kT
    have hsi := Ia_shift hI h0 h1 a
    have L : ∀ (d : Nat) (x : Int32) (T : Sg), 0 ≤ x → x + nI d = g 128 (nt s) - 1 → x ≤ g 128 (nt s) - 1 → mS S0 T (gShp g s (nt x)) → w_X8_frees_47 Q (d + 1) s p (40 * s) (g 129 (nt (40 * s))) (40 * s + x) T := by
      intro d
      have fin : ∀ (x : Int32) (T : Sg), x = g 128 (nt s) - 1 → mS S0 T (gShp g s (nt x)) → w_X8_sells s p (g 129 (nt (40 * s))) T (fun k3 v2 S1 => (k3 = 0 → Q 0 v2 S1) ∧ (¬ k3 = 0 → Q k3 0 S1)) := fun x T ex k => by
        rw [ex, shp_end] at k
        refine sellsM_ok k hsi h0 (by rw [shift_o (by omega)]; exact h1) p0 (by rw [wd_shift]; exact p1) (by rw [shift_o (by omega)]; lia) (fun U u => kz ?_)
        rw [shift_o (by omega)]
        exact q U u
      have y8 : ∀ m, gShp g s m 128 (nt s) = g 128 (nt s) - 1 := fun m => if_pos ⟨rfl, rfl⟩
      induction d with
      | zero =>
        intro x T x0 x1 x2 k
        have ex : x = g 128 (nt s) - 1 := by rw [← x1]; show x = x + 0; lia
        rw [w_X8_frees_47, k.1 _ _ (mcA : mc 128), y8]
        exact ⟨vs, fun _ => fin x T ex k, fun z => by lia⟩
      | succ d ih =>
        intro x T x0 x1 x2 k
        rw [w_X8_frees_47, k.1 _ _ (mcA : mc 128), y8]
        refine ⟨vs, fun z => fin x T (by lia) k, fun z => ?_⟩
        have e1 : nt (40 * s + x) = nt (40 * s) + nt x := nt_add (by lia) x0 (by lia) (by lia)
        have e2 : nt (40 * s + x + 1) = nt (40 * s) + nt x + 1 := by rw [ntS (by lia) (by lia), e1]
        have w1 : vp_in (40 * s + x + 1) 1200 := vp_of (by lia) (by show _ < 1200; lia) (by decide)
        have w2 : vp_in (40 * s + x) 1200 := vp_of (by lia) (by show _ < 1200; lia) (by decide)
        refine ⟨w1, w2, stm k mcA e1 (by rw [k.1 _ _ (mcA : mc 129), e2]) fun T4 k4 => ⟨w1, w2, ?_, stm k4 mcA e1 (by rw [k4.1 _ _ (mcA : mc 130), e2, gu_ne (by simp)]) fun T5 k5 => ?_⟩⟩
        · rw [k4.1 _ _ (mcA : mc 130), e2, gu_ne (by simp)]
          have e3 : gShp g s (nt x) 130 (nt (40 * s) + nt x + 1) = g 130 (nt (40 * s + (x + 1))) := by
            unfold gShp
            rw [if_neg (by omega), if_neg (fun z => by omega), show 40 * s + (x + 1) = 40 * s + x + 1 by lia, e2]
          rw [e3]
          exact ia_l hI s h0 h1 (x + 1) (by lia) (by lia)
        · rw [shp_step, ← ntS x0 (by lia)] at k5
          rw [show 40 * s + x + 1 = 40 * s + (x + 1) by lia]
          exact ih (x + 1) T5 (by lia) (by rw [nI1] at x1; lia) (by lia) k5
    have hP : 0 ≤ g 128 (nt s) - 1 := by lia
    refine ⟨nt (g 128 (nt s) - 1) + 1, ?_⟩
    have := L (nt (g 128 (nt s) - 1)) 0 T (by decide) (by rw [nI_nt0 hP]; lia) hP kT
    rw [show 40 * s + 0 = 40 * s by lia] at this
    exact this
theorem endsM_ok {k : Int32} (h : mS S0 S g) (hI : Ia g) (k0 : 0 ≤ k) (k1 : k < g 331 0) (ho : g 135 (nt k) = 0) (q : ∀ S1, mS S0 S1 (gEnds g k).2 → Q 0 (gEnds g k).1 S1) : w_X8_ends k S Q := by
  obtain ⟨s0, s1, p0, p1, e6, e7, -⟩ := hold_pl hI k0 k1 ho
  have hE := Ia_end hI k0 k1 ho
  have w := wd_le (ia_h hI) (ia_s hI) s0 s1
  have v := v100 (ia_n hI) k0 k1
  have vp := v1440 hI ⟨s0, s1⟩ p0 (by lia)
  unfold w_X8_ends
  refine ⟨v, Or.inr rfl, stm h mcA rfl rfl fun T1 t1 => ⟨v, v, ?_⟩⟩
  have y1 : T1.1 132 (nt k) = g 132 (nt k) := t1.1 _ _ mcA
  have y2 : T1.1 133 (nt k) = g 133 (nt k) := t1.1 _ _ mcA
  rw [y1, y2]
  refine ⟨vp, stm t1 mcA rfl rfl fun T2 t2 => ⟨v, v, ?_⟩⟩
  have z1 : T2.1 132 (nt k) = g 132 (nt k) := t2.1 _ _ mcA
  have z2 : T2.1 133 (nt k) = g 133 (nt k) := t2.1 _ _ mcA
  rw [z1, z2]
  exact freesM_ok t2 hE s0 s1 p0 p1 (fun U u => kz (q U u))
theorem mod_letGo {k : Int32} (hM : mC S g) (hI : Iv g) (hQ : mPost [3, 2] (rLetGo g k) S Q) : w_X8_letGo k S Q := by
  have hn := i_n hI
  unfold w_X8_letGo w_X8_letGo_27
  refine isHold_ok hM hn (fun r1 => kb1 ⟨v100 hn r1.1 r1.2, ?_⟩) (fun r1 => kb0 (mFail (mP_of hQ (if_neg r1)) hM (by decide) rfl (by decide)))
  rw [hM _ _ (mcA : mc 135)]
  refine ⟨fun r2 => mGo ?_, fun r2 => mFail (mP_of hQ (by unfold rLetGo; rw [if_pos r1, if_neg r2])) hM (by decide) rfl (by decide)⟩
  have hQ := mP_of hQ (show rLetGo g k = (0, (gEnds g k).1, (gEnds g k).2) by unfold rLetGo; rw [if_pos r1, if_pos r2])
  exact endsM_ok (mS0 hM) hI.1 r1.1 r1.2 r2 (fun U u => kz (mEnd hQ u rfl))
theorem mod_giveBack {t : Int32} (hM : mC S g) (hI : Iv g) (hQ : mPost [3, 2] (rBack g t) S Q) : w_X8_giveBack t S Q := by
  have hn := i_n hI
  unfold w_X8_giveBack w_X8_giveBack_35 w_X8_giveBack_36 w_X8_giveBack_59
  have no : ¬ isX g 336 t → mPost [3, 2] (3, 0, g) S Q := fun r => mP_of hQ (if_neg r)
  refine isTicket_ok hM hn (fun r1 => kb1 ?_) (fun r1 => kb0 (isTicket_ok hM hn (fun r => absurd r r1) (fun r => kb0 (mFail (no r) hM (by decide) rfl (by decide)))))
  obtain ⟨s0, s1, p0, p1, b1, v0, v1, b2, b3⟩ := i_t hI t r1.1 r1.2
  have v := v400 hn r1.1 r1.2
  have bad : ¬ (g 125 (nt (g 137 (nt t))) = 0 ∧ g 141 (nt t) = 0) → mPost [3, 2] (2, 0, g) S Q := fun r => mP_of hQ (by unfold rBack; rw [if_pos r1, if_neg r])
  rw [hM _ _ (mcA : mc 137), hM _ _ (mcA : mc 125), hM _ _ (mcA : mc 141)]
  refine ⟨v, v30 hn s0 s1, fun r2 => ⟨v, fun r3 => isTicket_ok hM hn (fun _ => kb1 (b1' (mGo ?_))) (fun r => absurd r1 r), fun r3 => isTicket_ok hM hn (fun _ => kb1 (b0 (mFail (bad (fun z => r3 z.2)) hM (by decide) rfl (by decide)))) (fun r => absurd r1 r)⟩, fun r2 => isTicket_ok hM hn (fun _ => kb1 (b0 (mFail (bad (fun z => r2 z.1)) hM (by decide) rfl (by decide)))) (fun r => absurd r1 r)⟩
  have hQ := mP_of hQ (show rBack g t = (0, g 140 (nt t), gBack g t) by unfold rBack; rw [if_pos r1, if_pos ⟨r2, r3⟩])
  have h0 := mS0 hM
  have hE := Ia_back hI.1 r1.1 r1.2 r3
  have w := wd_le (i_h hI) (i_s hI) s0 s1
  have vp := v1440 hI.1 ⟨s0, s1⟩ p0 (by lia)
  refine ⟨v, ?_⟩
  intro x ex
  have ex : x = g 140 (nt t) := ex.trans (h0.1 _ _ mcA)
  subst ex
  refine ⟨v, stm h0 mcA rfl rfl fun T1 t1 => ⟨v, Or.inr rfl, stm t1 mcA rfl rfl fun T2 t2 => ⟨v, v, ?_⟩⟩⟩
  have y1 : T2.1 137 (nt t) = g 137 (nt t) := t2.1 _ _ mcA
  have y2 : T2.1 138 (nt t) = g 138 (nt t) := t2.1 _ _ mcA
  rw [y1, y2]
  refine ⟨vp, stm t2 mcA rfl rfl fun T3 t3 => ⟨v, v, ?_⟩⟩
  have z1 : T3.1 137 (nt t) = g 137 (nt t) := t3.1 _ _ mcA
  have z2 : T3.1 138 (nt t) = g 138 (nt t) := t3.1 _ _ mcA
  rw [z1, z2]
  exact freesM_ok t3 hE s0 s1 p0 p1 (fun U u => kz (mEnd hQ u rfl))
end FM
