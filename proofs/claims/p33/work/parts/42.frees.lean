/-! the class: the first of the line, a place that becomes free, a hold that ends -/
theorem shift_o {g : Gm} {s : Int32} {c i : Nat} (h : c ≠ 128 ∧ c ≠ 129 ∧ c ≠ 130) : gShift g s c i = g c i := by
  unfold gShift
  rw [if_neg (fun z => h.1 z.1), if_neg (fun z => z.1.elim h.2.1 h.2.2)]
theorem shift_8 {g : Gm} {s : Int32} {i : Nat} : gShift g s 128 i = if i = nt s then g 128 (nt s) - 1 else g 128 i := by
  unfold gShift
  by_cases e : i = nt s
  · rw [if_pos ⟨rfl, e⟩, if_pos e]
  · rw [if_neg (fun z => e z.2), if_neg e, if_neg (fun z => by have := z.1; omega)]
theorem cC_shift {S F : Sg} {g : Gm} {s : Int32} (hC : cC S g) (hI : Ia g) (h0 : 0 ≤ s) (h1 : s < g 321 0) (hp : 1 ≤ g 128 (nt s) ∧ g 128 (nt s) ≤ 40) (hF : ∀ c i, c ≠ 1001 + 2 * nt s → ¬ (c = 81 ∧ i = nt s) → ¬ (c = 82 ∧ i = nt s) → F.1 c i = S.1 c i) (f82 : F.1 82 (nt s) = g 128 (nt s) - 1) (f81 : F.1 81 (nt s) = if S.1 81 (nt s) - 1 < 0 then 0 else S.1 81 (nt s) - 1) (fC : ∀ i, F.1 (1001 + 2 * nt s) i = if i < nt (g 128 (nt s) - 1) then S.1 (1001 + 2 * nt s) (i + 1) else S.1 (1001 + 2 * nt s) i) : cC F (gShift g s) := by
  obtain ⟨-, -, -, -, -, -, -, -, -, -, -, b12, -⟩ := ia_n hI
  have a6 := ia_s hI
  obtain ⟨c1, c2, c3, c4, c5, c6, c7, c8⟩ := hC
  have z1 : ∀ q ∈ colT, q.1 ≠ 81 ∧ (q.1 = 82 ↔ q.2.1 = 128) ∧ q.2.1 ≠ 129 ∧ q.2.1 ≠ 130 ∧ 300 ≤ q.2.2 ∧ q.1 < 100 := by decide
  have z2 : ∀ q ∈ idT, q.1 ≠ 81 ∧ q.1 ≠ 82 ∧ 300 ≤ q.2 ∧ q.1 < 100 := by decide
  have z3 : ∀ q ∈ scT, q.1 ≠ 81 ∧ q.1 ≠ 82 ∧ 300 ≤ q.2.2 ∧ q.1 < 100 := by decide
  have gz : ∀ c i, 300 ≤ c → gShift g s c i = g c i := fun c i h => shift_o (by omega)
  refine ⟨fun q hq i a b => ?_, fun q hq i a b => ?_, fun q hq => ?_, fun j hj => ?_, fun x a b => ?_, fun x a b => ?_, fun x a b => ?_, fun x y a b c d => ?_⟩
  · obtain ⟨q1, q2, q3, q4, q5, q6⟩ := z1 q hq
    rw [gz _ _ q5] at b
    by_cases e : q.1 = 82
    · rw [q2.mp e, shift_8]
      by_cases e2 : nt i = nt s
      · rw [if_pos e2, e, e2]; exact f82
      · rw [if_neg e2, hF _ _ (by omega) (by omega) (fun z => e2 z.2), ← q2.mp e]; exact c1 q hq i a b
    · rw [hF _ _ (by omega) (by omega) (by omega), shift_o ⟨fun z => e (q2.mpr z), q3, q4⟩]; exact c1 q hq i a b
  · obtain ⟨q1, q2, q3, q4⟩ := z2 q hq
    rw [gz _ _ q3] at b
    rw [hF _ _ (by omega) (by omega) (by omega)]; exact c2 q hq i a b
  · obtain ⟨q1, q2, q3, q4⟩ := z3 q hq
    rw [hF _ _ (by omega) (by omega) (by omega), gz _ _ q3]; exact c3 q hq
  · rw [hF _ _ (by omega) (by omega) (by omega)]; exact c4 j hj
  · rw [hF _ _ (by omega) (by omega) (by omega)]; exact c5 x a b
  · rw [hF _ _ (by omega) (by omega) (by omega)]; exact c6 x a b
  · have b : x < g 321 0 := b
    rw [shift_8]
    obtain ⟨m0, m1, m2⟩ := c7 x a b
    obtain ⟨-, -, -, -, -, -, -, -, r1, r2⟩ := a6 x a b
    by_cases e : x = s
    · subst e
      rw [if_pos rfl, f81]
      refine ⟨by split <;> lia, by split <;> lia, fun k k0 k1 => ?_⟩
      have e1 : nt k < nt (g 128 (nt x) - 1) := (ntlt k0 (by lia)).mpr k1
      rw [fC, if_pos e1, ← ntS k0 (by lia), shift_at a (by lia) a (by lia) k0 (by lia) hp (Or.inl rfl), if_pos ⟨rfl, k1⟩, shift_at a (by lia) a (by lia) k0 (by lia) hp (Or.inr rfl), if_pos ⟨rfl, k1⟩]
      obtain ⟨y1, y2⟩ := m2 (k + 1) (by lia) (by lia)
      refine ⟨y1, y2.trans ?_⟩
      by_cases e2 : k + 1 < S.1 81 (nt x)
      · rw [if_pos e2, if_pos]
        split <;> lia
      · rw [if_neg e2, if_neg]
        split <;> lia
    · have ne : nt x ≠ nt s := fun z => e ((nt_inj a h0).mp z)
      rw [if_neg ne, hF _ _ (by omega) (fun z => ne z.2) (fun z => ne z.2)]
      refine ⟨m0, m1, fun k k0 k1 => ?_⟩
      rw [hF _ _ (by omega) (by omega) (by omega), shift_at h0 (by lia) a (by lia) k0 (by lia) hp (Or.inl rfl), if_neg (fun z => e z.1), shift_at h0 (by lia) a (by lia) k0 (by lia) hp (Or.inr rfl), if_neg (fun z => e z.1)]
      exact m2 k k0 k1
  · rw [hF _ _ (by omega) (by omega) (by omega)]; exact c8 x y a b c d
section FR
variable {n : Nat} {g : Gm} {S : Sg} {Q : Nat → Int32 → Sg → Prop}
theorem takeFirst_ok {s : Int32} (hC : cC S g) (hI : Ia g) (h0 : 0 ≤ s) (h1 : s < g 321 0) (hp : g 128 (nt s) ≠ 0) (q : ∀ S1, cC S1 (gShift g s) → fr S S1 → S1.2 = S.2 → (∀ i, S1.1 12 i = S.1 12 i) → Q 0 (g 129 (nt (40 * s))) S1) : w_X4_takeFirst s S Q := by
  obtain ⟨-, -, -, -, -, -, -, -, -, -, -, b12, -⟩ := ia_n hI
  obtain ⟨-, -, -, -, -, -, -, -, r1, r2⟩ := ia_s hI s h0 h1
  obtain ⟨m0, m1, m2⟩ := c_ln hC h0 h1
  have hp2 : 1 ≤ g 128 (nt s) ∧ g 128 (nt s) ≤ 40 := ⟨by lia, r2⟩
  unfold w_X4_takeFirst
  rw [c_82 hC h0 h1, c_80 hC h0 h1]
  refine ⟨fun _ => ⟨by lia, vp_of (by decide) (by decide) (by decide), ?_⟩, fun a => by lia⟩
  intro v6 e6 S7 e7
  have e6 : v6 = g 129 (nt (40 * s)) := by
    rw [e6, (m2 0 (by decide) (by lia)).1, show 40 * s + 0 = 40 * s by lia]
  subst e6
  have L : ∀ (d : Nat) (x : Int32) (T : Sg), 0 ≤ x → x + nI d = g 128 (nt s) - 1 → x ≤ g 128 (nt s) - 1 → (∀ c i, c ≠ 1001 + 2 * nt s → T.1 c i = S7.1 c i) → (∀ i, T.1 (1001 + 2 * nt s) i = if i < nt x then S.1 (1001 + 2 * nt s) (i + 1) else S.1 (1001 + 2 * nt s) i) → T.2 = S.2 → w_X4_takeFirst_28 Q (d + 1) s (g 129 (nt (40 * s))) x T := by
    intro d
    have fin : ∀ T : Sg, (∀ c i, c ≠ 1001 + 2 * nt s → T.1 c i = S7.1 c i) → (∀ i, T.1 (1001 + 2 * nt s) i = if i < nt (g 128 (nt s) - 1) then S.1 (1001 + 2 * nt s) (i + 1) else S.1 (1001 + 2 * nt s) i) → T.2 = S.2 → Q 0 (g 129 (nt (40 * s))) (su T 81 (nt s) (if S.1 81 (nt s) - 1 < 0 then 0 else S.1 81 (nt s) - 1)) := fun T t1 t2 t3 => by
      have tS : ∀ c i, c ≠ 1001 + 2 * nt s → ¬ (c = 81 ∧ i = nt s) → ¬ (c = 82 ∧ i = nt s) → (su T 81 (nt s) (if S.1 81 (nt s) - 1 < 0 then 0 else S.1 81 (nt s) - 1)).1 c i = S.1 c i := fun c i a1 a2 a3 => by
        rw [su_ne (by by_cases z : c = 81; exact Or.inr (fun u => a2 ⟨z, u⟩); exact Or.inl z), t1 c i a1, e7, su_ne (by by_cases z : c = 82; exact Or.inr (fun u => a3 ⟨z, u⟩); exact Or.inl z)]
      refine q _ (cC_shift hC hI h0 h1 hp2 tS ?_ su_at (fun i => ?_)) (fun c i h => tS c i (by have := mc_lc h; omega) (by have := mc_lc h; omega) (by have := mc_lc h; omega)) t3 (fun i => tS 12 i (by omega) (by omega) (by omega))
      · rw [su_ne (Or.inl (by decide)), t1 82 _ (by omega), e7, su_at]
      · rw [su_ne (Or.inl (by omega)), t2]
    have stop : ∀ (x : Int32) (T : Sg), x = g 128 (nt s) - 1 → (∀ c i, c ≠ 1001 + 2 * nt s → T.1 c i = S7.1 c i) → (∀ i, T.1 (1001 + 2 * nt s) i = if i < nt x then S.1 (1001 + 2 * nt s) (i + 1) else S.1 (1001 + 2 * nt s) i) → T.2 = S.2 → w_J9_max_7cf53 ((T.1 81 (nt s)) - 1) 0 T (fun k3 v2 S1 => (k3 = 0 → (∀ S4, S4 = su S1 81 (nt s) v2 → Q 0 (g 129 (nt (40 * s))) S4)) ∧ (¬ k3 = 0 → Q k3 0 S1)) := fun x T ex t1 t2 t3 => by
      refine max_ok (kz ?_)
      rintro S4 rfl
      rw [t1 81 _ (by omega), e7, su_ne (Or.inl (by decide))]
      exact fin T t1 (ex ▸ t2) t3
    induction d with
    | zero =>
      intro x T x0 x1 x2 t1 t2 t3
      have ex : x = g 128 (nt s) - 1 := by rw [← x1]; show x = x + 0; lia
      have y82 : T.1 82 (nt s) = g 128 (nt s) - 1 := by rw [t1 82 _ (by omega), e7, su_at]
      rw [w_X4_takeFirst_28, y82]
      exact ⟨fun _ => stop x T ex t1 t2 t3, fun a => by lia⟩
    | succ d ih =>
      intro x T x0 x1 x2 t1 t2 t3
      have y82 : T.1 82 (nt s) = g 128 (nt s) - 1 := by rw [t1 82 _ (by omega), e7, su_at]
      have y80 : T.1 80 (nt s) = s := by rw [t1 80 _ (by omega), e7, su_ne (Or.inl (by decide))]; exact c_80 hC h0 h1
      rw [w_X4_takeFirst_28, y82, y80]
      refine ⟨fun a => stop x T (by lia) t1 t2 t3, fun a => ⟨by lia, by lia, vp_of (by lia) (by show x + 1 < 40; lia) (by decide), vp_of x0 (by show x < 40; lia) (by decide), ?_⟩⟩
      rintro S5 rfl
      refine ih (x + 1) _ (by lia) (by rw [nI1] at x1; lia) (by lia) (fun c i hc => by rw [su_ne (Or.inl hc)]; exact t1 c i hc) (fun i => ?_) t3
      have e9 : nt (x + 1) = nt x + 1 := ntS x0 (by lia)
      by_cases e : i = nt x
      · rw [e, su_at, e9, if_pos (by omega), t2, if_neg (by omega)]
      · rw [su_ne (Or.inr e), t2, e9]
        by_cases e2 : i < nt x
        · rw [if_pos e2, if_pos (by omega)]
        · rw [if_neg e2, if_neg (by omega)]
  have hP : 0 ≤ g 128 (nt s) - 1 := by lia
  refine ⟨nt (g 128 (nt s) - 1) + 1, L _ 0 S7 (by decide) (by rw [nI_nt0 hP]; lia) hP (fun _ _ _ => rfl) (fun i => ?_) (by rw [e7]; rfl)⟩
  rw [if_neg (by have : nt 0 = 0 := rfl; omega), e7, su_ne (Or.inl (by omega))]
theorem wd_shift {s x : Int32} : wd (gShift g s) x = wd g x := by
  unfold wd
  rw [shift_o (by omega), shift_o (by omega), shift_o (by omega)]
theorem freePlace_ok {s p : Int32} (hC : cC (su S (1000 + 2 * nt s) (nt p) (-1)) g) (hI : Ia g) (hB : Bd n S) (hn : n ≤ 20000) (h0 : 0 ≤ s) (h1 : s < g 321 0) (p0 : 0 ≤ p) (p1 : p < wd g s) (hf : fre g s p) (q : ∀ S1, cC S1 (gFrees g s p).2 → fr S S1 → Bd n S1 → Q 0 (gFrees g s p).1 S1) : w_X7_freePlace s p S Q := by
  have n3 := n336 (ia_n hI)
  have y54 : S.1 54 (nt s) = s := by have := c_54 hC h0 h1; rw [su_ne (Or.inl (by omega))] at this; exact this
  have y58 : S.1 58 (nt s) = wd g s := by have := c_58 hC h0 h1; rw [su_ne (Or.inl (by omega))] at this; exact this
  have f1 : fr S (su S (1000 + 2 * nt s) (nt p) (-1)) := fr_su fr_rf (by unfold mc; omega)
  have bs : Bd n (su S (1000 + 2 * nt s) (nt p) (-1)) := bd_same hB rfl (fun i => su_ne (Or.inl (by omega)))
  unfold w_X7_freePlace w_size
  rw [y54, y58]
  refine ⟨by lia, vp_of2 p0 p1, ?_⟩
  rintro S1 rfl
  rw [c_55 hC h0 h1, c_82 hC h0 h1, c_12_5 hC]
  refine ⟨by lia, fun a => ?_, fun a => kz ⟨fun b => ?_, fun b => ?_⟩⟩
  · have e : gFrees g s p = (-1, g) := if_pos (Or.inl a)
    rw [e] at q
    exact q _ hC f1 bs
  · have e : gFrees g s p = (g 336 0, gSells (gShift g s) s p (g 129 (nt (40 * s)))) := if_neg (fun z => z.elim a (fun z => by lia))
    rw [e] at q
    rw [c_55 hC h0 h1]
    refine ⟨by lia, ?_⟩
    refine takeFirst_ok hC hI h0 h1 a (fun T t1 t2 t3 t4 => kz ?_)
    exact addTicket_ok t1 (Ia_shift hI h0 h1 a) (bd_same bs t3 t4) hn h0 (by rw [shift_o (by omega)]; exact h1) p0 (by rw [wd_shift]; exact p1) (by rw [shift_o (by omega)]; exact b) (fun U u1 u2 u3 => kz (by rw [shift_o (by omega)]; exact q U u1 (fr_tr f1 (fr_tr t2 u2)) u3))
  · have e : gFrees g s p = (-1, g) := if_pos (Or.inr (by lia))
    rw [e] at q
    exact q _ hC f1 bs
theorem hold_pl {k : Int32} (hI : Ia g) (k0 : 0 ≤ k) (k1 : k < g 331 0) (ho : g 135 (nt k) = 0) : 0 ≤ g 132 (nt k) ∧ g 132 (nt k) < g 321 0 ∧ 0 ≤ g 133 (nt k) ∧ g 133 (nt k) < wd g (g 132 (nt k)) ∧ g 126 (nt (48 * g 132 (nt k) + g 133 (nt k))) = -1 ∧ g 127 (nt (48 * g 132 (nt k) + g 133 (nt k))) = k ∧ g 125 (nt (g 132 (nt k))) = 0 := by
  obtain ⟨a1, a2, a3, a4, -, a6⟩ := ia_o hI k k0 k1
  obtain ⟨b1, b2, b3⟩ := a6 ho
  have w := wd_le (ia_h hI) (ia_s hI) a1 a2
  obtain ⟨-, -, -, -, -, -, -, -, -, -, -, b12, -⟩ := ia_n hI
  obtain ⟨c1, c2⟩ := ia_pl hI _ _ a1 (show g 132 (nt k) < 30 by lia) a3 (show g 133 (nt k) < 48 by lia)
  refine ⟨a1, a2, a3, a4, ?_, b3, b1⟩
  rcases c1 with c | c
  · exact c
  · have := c.2.2.1
    rw [b3] at this
    lia
theorem endUnbought_ok {k : Int32} (hC : cC S g) (hI : Ia g) (hB : Bd n S) (hn : n ≤ 20000) (k0 : 0 ≤ k) (k1 : k < g 331 0) (ho : g 135 (nt k) = 0) (q : ∀ S1, cC S1 (gEnds g k).2 → fr S S1 → Bd n S1 → Q 0 (gEnds g k).1 S1) : w_X7_endUnbought k S Q := by
  have n3 := n336 (ia_n hI)
  have hE := Ia_end hI k0 k1 ho
  obtain ⟨s0, s1, p0, p1, e6, e7, -⟩ := hold_pl hI k0 k1 ho
  obtain ⟨a1, a2, a3, a4, a5, a6, -⟩ := id hI
  have c1 := cC_su (i := k) (v := 1) (show (63, 135, 331) ∈ colT by decide) (by omega) n3 hC
  have h1 : (su S 63 (nt k) 1).1 60 (nt k) = g 132 (nt k) := by rw [su_ne (Or.inl (by decide))]; exact c_60 hC k0 k1
  have h2 : (su S 63 (nt k) 1).1 61 (nt k) = g 133 (nt k) := by rw [su_ne (Or.inl (by decide))]; exact c_61 hC k0 k1
  unfold w_X7_endUnbought
  rintro S1 rfl
  rw [h1, h2]
  have c2 : cC (su (su S 63 (nt k) 1) (1000 + 2 * nt (g 132 (nt k))) (nt (g 133 (nt k))) (-1)) (gu (gu g 135 (nt k) 1) 127 (nt (48 * g 132 (nt k) + g 133 (nt k))) (-1)) := by
    refine cC_pl c1 a1 a2 a6 s0 s1 p0 p1 (fun c i h => gu_ne (by by_cases z : c = 127; exact Or.inr (fun u => h ⟨Or.inr z, u⟩); exact Or.inl z)) ?_
    unfold plv
    rw [gu_at, if_pos rfl, gu_ne (by simp), gu_ne (by simp), if_pos e6]
  have hfre : fre (gu (gu g 135 (nt k) 1) 127 (nt (48 * g 132 (nt k) + g 133 (nt k))) (-1)) (g 132 (nt k)) (g 133 (nt k)) := ⟨e6, gu_at⟩
  exact ⟨by lia, freePlace_ok c2 hE (bd_same hB rfl (fun i => su_ne (Or.inl (by decide)))) hn s0 s1 p0 p1 hfre (fun T t1 t2 t3 => kz (q T t1 (fr_tr (fr_su fr_rf (by unfold mc; omega)) t2) t3))⟩
theorem openHoldAt_ok {k : Int32} (hC : cC S g) (h0 : isX g 331 k → g 135 (nt k) = 0 → Q 0 k S) (h2 : isX g 331 k → ¬ g 135 (nt k) = 0 → S.2.1 + 1 ≤ nB1 ∧ S.2.2 + 6 ≤ nB2 ∧ Q 2 0 (tS S)) (h1 : ¬ isX g 331 k → S.2.1 + 1 ≤ nB1 ∧ S.2.2 + 6 ≤ nB2 ∧ Q 3 0 (tS S)) : w_X7_openHoldAt k S Q := by
  unfold w_X7_openHoldAt
  refine needHold_ok hC (fun r => kz ?_) (fun r => by obtain ⟨b1, b2, b3⟩ := h1 r; exact ⟨b1, b2, kn (by decide) b3⟩)
  unfold w_get
  rw [c_12_4 hC]
  refine ⟨⟨by have := r.1; lia, r.2⟩, kz ?_⟩
  rw [c_63 hC r.1 r.2]
  exact ⟨fun a => h0 r a, fun a => h2 r a⟩
theorem cls_letGo {k : Int32} (hC : cC S g) (hI : Iv g) (hB : Bd n S) (hn : n < 20000) (hQ : cPost n (rLetGo g k) S Q) : w_X7_letGo k S Q := by
  unfold w_X7_letGo
  refine openHoldAt_ok hC (fun r1 r2 => kz ?_) (fun r1 r2 => cThr1 (by decide) hC hI hB hn (cP_of hQ (by unfold rLetGo; rw [if_pos r1, if_neg r2]))) (fun r1 => cThr1 (by decide) hC hI hB hn (cP_of hQ (if_neg r1)))
  have hQ := cP_of hQ (show rLetGo g k = (0, gEnds g k) by unfold rLetGo; rw [if_pos r1, if_pos r2])
  exact endUnbought_ok hC hI.1 hB (by omega) r1.1 r1.2 r2 (fun T t1 t2 t3 => kz (hQ T t1 t2 (bd_up t3)))
theorem gu_comm {c c' i i' : Nat} {v v' : Int32} (h : c ≠ c' ∨ i ≠ i') : gu (gu g c i v) c' i' v' = gu (gu g c' i' v') c i v := by
  funext a b
  by_cases e : a = c ∧ b = i
  · rw [e.1, e.2, gu_at, gu_ne h, gu_at]
  · have e1 : a ≠ c ∨ b ≠ i := by by_cases z : a = c; exact Or.inr (fun u => e ⟨z, u⟩); exact Or.inl z
    rw [gu_ne (c := c) e1]
    by_cases e2 : a = c' ∧ b = i'
    · rw [e2.1, e2.2, gu_at, gu_at]
    · have e3 : a ≠ c' ∨ b ≠ i' := by by_cases z : a = c'; exact Or.inr (fun u => e2 ⟨z, u⟩); exact Or.inl z
      rw [gu_ne e3, gu_ne e3, gu_ne e1]
theorem cls_giveBack {t : Int32} (hC : cC S g) (hI : Iv g) (hB : Bd n S) (hn : n < 20000) (hQ : cPost n (rBack g t) S Q) : w_X7_giveBack t S Q := by
  have n3 := n336 (i_n hI)
  unfold w_X7_giveBack
  refine ticketAt_ok hC (fun r1 => kz ?_) (fun r1 => cThr1 (by decide) hC hI hB hn (cP_of hQ (if_neg r1)))
  obtain ⟨s0, s1, p0, p1, b1, v0, v1, b2, b3⟩ := i_t hI t r1.1 r1.2
  rw [c_70 hC r1.1 r1.2]
  refine ⟨by lia, ?_⟩
  unfold w_X7_needPlanned
  rw [c_56 hC s0 s1]
  refine ⟨fun r2 => kz ?_, fun r2 => cThr1 (by decide) hC hI hB hn (cP_of hQ (by unfold rBack; rw [if_pos r1, if_neg (fun z => r2 z.1)]))⟩
  rw [c_74 hC r1.1 r1.2]
  refine ⟨fun r3 => ?_, fun r3 => cThr hC hI hB hn (cP_of hQ (by unfold rBack; rw [if_pos r1, if_neg (fun z => r3 z.2)]))⟩
  have hQ := cP_of hQ (show rBack g t = (0, g 140 (nt t), gBack g t) by unfold rBack; rw [if_pos r1, if_pos ⟨r2, r3⟩])
  have hE := Ia_back hI.1 r1.1 r1.2 r3
  have e6 := b3 r3
  have w := wd_le (i_h hI) (i_s hI) s0 s1
  obtain ⟨-, -, -, -, -, -, -, -, -, -, -, b12, -⟩ := i_n hI
  obtain ⟨c1, c2⟩ := i_pl hI _ _ s0 (show g 137 (nt t) < 30 by lia) p0 (show g 138 (nt t) < 48 by lia)
  have e7 : g 127 (nt (48 * g 137 (nt t) + g 138 (nt t))) = -1 := by
    rcases c1 with c | c
    · rw [e6] at c; have := r1.1; lia
    · exact c.2.2.1
  rintro S7 rfl
  unfold w_X6_payBack
  have y73 : (su S 74 (nt t) 1).1 73 (nt t) = g 140 (nt t) := by rw [su_ne (Or.inl (by decide))]; exact c_73 hC r1.1 r1.2
  rw [y73]
  rintro S1 rfl
  have k1 := cC_su (i := t) (v := 1) (show (74, 141, 336) ∈ colT by decide) (by omega) n3 hC
  have y70 : (su (su S 74 (nt t) 1) 73 (nt t) (g 140 (nt t) - g 140 (nt t))).1 70 (nt t) = g 137 (nt t) := by rw [su_ne (Or.inl (by decide)), su_ne (Or.inl (by decide))]; exact c_70 hC r1.1 r1.2
  rw [y70]
  refine ⟨by lia, ?_⟩
  rintro S2 rfl
  have y57 : (su (su S 74 (nt t) 1) 73 (nt t) (g 140 (nt t) - g 140 (nt t))).1 57 (nt (g 137 (nt t))) = (su S 74 (nt t) 1).1 57 (nt (g 137 (nt t))) := su_ne (Or.inl (by decide))
  rw [y57, show g 140 (nt t) - g 140 (nt t) = 0 by lia]
  have k2 := cC_pay (t := t) (v := 0) k1 (by exact n3) (by exact s0) (by exact s1) r1.1 (by exact r1.2)
  have g14 : gu g 141 (nt t) 1 140 (nt t) = g 140 (nt t) := gu_ne (by simp)
  have g13 : gu g 141 (nt t) 1 137 (nt t) = g 137 (nt t) := gu_ne (by simp)
  rw [g14, g13, show ∀ x : Int32, x + (0 - g 140 (nt t)) = x - g 140 (nt t) from fun x => by lia, gu_comm (by simp)] at k2
  refine kz ?_
  have y1 : ∀ c, c ≠ 57 → c ≠ 73 → c ≠ 74 → (su (su (su S 74 (nt t) 1) 73 (nt t) 0) 57 (nt (g 137 (nt t))) ((su S 74 (nt t) 1).1 57 (nt (g 137 (nt t))) - g 140 (nt t))).1 c (nt t) = S.1 c (nt t) := fun c h1 h2 h3 => by rw [su_ne (Or.inl h1), su_ne (Or.inl h2), su_ne (Or.inl h3)]
  rw [y1 70 (by decide) (by decide) (by decide), y1 71 (by decide) (by decide) (by decide), c_70 hC r1.1 r1.2, c_71 hC r1.1 r1.2]
  obtain ⟨a1, a2, a3, a4, a5, a6, -⟩ := id hI.1
  have k3 : cC (su (su (su (su S 74 (nt t) 1) 73 (nt t) 0) 57 (nt (g 137 (nt t))) ((su S 74 (nt t) 1).1 57 (nt (g 137 (nt t))) - g 140 (nt t))) (1000 + 2 * nt (g 137 (nt t))) (nt (g 138 (nt t))) (-1)) (gu (gu (gu g 140 (nt t) 0) 141 (nt t) 1) 126 (nt (48 * g 137 (nt t) + g 138 (nt t))) (-1)) := by
    refine cC_pl k2 a1 a2 a6 s0 s1 p0 p1 (fun c i h => gu_ne (by by_cases z : c = 126; exact Or.inr (fun u => h ⟨Or.inl z, u⟩); exact Or.inl z)) ?_
    unfold plv
    rw [gu_at, if_pos rfl, gu_ne (by simp), gu_ne (by simp), gu_ne (by simp), if_pos e7]
  have hfre : fre (gu (gu (gu g 140 (nt t) 0) 141 (nt t) 1) 126 (nt (48 * g 137 (nt t) + g 138 (nt t))) (-1)) (g 137 (nt t)) (g 138 (nt t)) := ⟨gu_at, e7⟩
  have fS : fr S (su (su (su S 74 (nt t) 1) 73 (nt t) 0) 57 (nt (g 137 (nt t))) ((su S 74 (nt t) 1).1 57 (nt (g 137 (nt t))) - g 140 (nt t))) := fr_su (fr_su (fr_su fr_rf (by unfold mc; omega)) (by unfold mc; omega)) (by unfold mc; omega)
  refine ⟨by lia, freePlace_ok k3 hE (bd_same hB rfl (fun i => by rw [su_ne (Or.inl (by decide)), su_ne (Or.inl (by decide)), su_ne (Or.inl (by decide))])) (by omega) s0 s1 p0 p1 hfre (fun T t1 t2 t3 => kz (hQ T t1 (fr_tr fS t2) (bd_up t3)))⟩
end FR
