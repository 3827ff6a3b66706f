/-! the class's small steps: a place, what is paid, the line, a ticket -/
theorem bz_su {S : Sg} {c i : Nat} {v : Int32} (h : c ≠ 12) : bz (su S c i v) = bz S := by
  unfold bz
  rw [su_ne (Or.inl (Ne.symm h)), su_ne (Or.inl (Ne.symm h)), su_ne (Or.inl (Ne.symm h)), su_ne (Or.inl (Ne.symm h)), su_ne (Or.inl (Ne.symm h)), su_ne (Or.inl (Ne.symm h))]
theorem cC_pl {S : Sg} {g g1 : Gm} {s p v : Int32} (hC : cC S g) (hn : I_n g) (hh : I_h g) (hs : I_s g) (h0 : 0 ≤ s) (h1 : s < g 321 0) (p0 : 0 ≤ p) (p1 : p < wd g s) (hg : ∀ c i, ¬ ((c = 126 ∨ c = 127) ∧ i = nt (48 * s + p)) → g1 c i = g c i) (hv : plv g1 s p = v) : cC (su S (1000 + 2 * nt s) (nt p) v) g1 := by
  have n3 := n336 hn
  have w48 : ∀ {s : Int32}, 0 ≤ s → s < g 321 0 → 1 ≤ wd g s ∧ wd g s ≤ 48 := fun h0 h1 => wd_le hh hs h0 h1
  obtain ⟨-, -, -, -, -, -, -, -, -, -, -, b12, -⟩ := id hn
  have gz : ∀ c i, c ≠ 126 → c ≠ 127 → g1 c i = g c i := fun c i c1 c2 => hg c i (fun z => by have := z.1; omega)
  have hwd : ∀ x, wd g1 x = wd g x := fun x => by
    unfold wd
    rw [gz 123 _ (by decide) (by decide), gz 103 _ (by decide) (by decide), gz 104 _ (by decide) (by decide)]
  have hpf : ∀ x, pf g1 x = pf g x := fun x => pf_eq (gz 336 0 (by decide) (by decide)) n3 (fun t _ _ => ⟨gz 137 _ (by decide) (by decide), gz 140 _ (by decide) (by decide)⟩)
  obtain ⟨c1, c2, c3, c4, c5, c6, c7, c8⟩ := hC
  have z1 : ∀ q ∈ colT, q.1 < 100 ∧ q.2.1 ≠ 126 ∧ q.2.1 ≠ 127 ∧ 300 ≤ q.2.2 := by decide
  have z2 : ∀ q ∈ idT, q.1 < 100 ∧ 300 ≤ q.2 := by decide
  have z3 : ∀ q ∈ scT, q.1 < 100 ∧ 300 ≤ q.2.2 := by decide
  refine ⟨fun q hq i a b => ?_, fun q hq i a b => ?_, fun q hq => ?_, fun j hj => ?_, fun x a b => ?_, fun x a b => ?_, fun x a b => ?_, fun x y a b c d => ?_⟩
  · obtain ⟨q1, q2, q3, q4⟩ := z1 q hq
    rw [gz _ _ (by omega) (by omega)] at b
    rw [su_ne (Or.inl (by omega)), gz _ _ q2 q3]; exact c1 q hq i a b
  · obtain ⟨q1, q4⟩ := z2 q hq
    rw [gz _ _ (by omega) (by omega)] at b
    rw [su_ne (Or.inl (by omega))]; exact c2 q hq i a b
  · obtain ⟨q1, q4⟩ := z3 q hq
    rw [su_ne (Or.inl (by omega)), gz _ _ (by omega) (by omega)]; exact c3 q hq
  · rw [su_ne (Or.inl (by omega))]; exact c4 j hj
  · rw [gz _ _ (by omega) (by omega)] at b
    rw [su_ne (Or.inl (by omega)), hpf]; exact c5 x a b
  · rw [gz _ _ (by omega) (by omega)] at b
    rw [su_ne (Or.inl (by omega)), hwd]; exact c6 x a b
  · rw [gz _ _ (by omega) (by omega)] at b
    rw [su_ne (Or.inl (by omega)), gz 128 _ (by omega) (by omega)]
    obtain ⟨q1, q2, q3⟩ := c7 x a b
    refine ⟨q1, q2, fun k k1 k2 => ?_⟩
    rw [su_ne (Or.inl (by omega)), gz 129 _ (by omega) (by omega), gz 130 _ (by omega) (by omega)]
    exact q3 k k1 k2
  · rw [gz _ _ (by omega) (by omega)] at b
    rw [hwd] at d
    by_cases e : x = s ∧ y = p
    · rw [e.1, e.2, su_at, hv]
    · have e1 := w48 h0 h1
      have e2 := w48 a b
      have ne : ¬ nt (48 * x + y) = nt (48 * s + p) := fun z => e ((ix_inj a (by lia) c (by lia) h0 (by lia) p0 (by lia)).mp z)
      have hp : plv g1 x y = plv g x y := by
        unfold plv
        rw [hg 126 _ (fun z => ne z.2), hg 127 _ (fun z => ne z.2)]
      rw [hp, su_ne]
      · exact c8 x y a b c d
      · by_cases q : x = s
        · refine Or.inr (fun z => e ⟨q, (nt_inj c p0).mp z⟩)
        · refine Or.inl (fun z => q ((nt_inj a h0).mp (by omega)))
theorem sm_upd {f f2 : Int32 → Int32} {a : Int32} {n : Nat} (hn : n < 2147483648) (h0 : 0 ≤ a) (h1 : a < nI n) (h : ∀ x, 0 ≤ x → x < nI n → x ≠ a → f2 x = f x) : sm f2 n = sm f n + (f2 a - f a) := by
  have e : sm f2 n = sm (fun x => f x + (fun x => if x = a then f2 a - f a else 0) x) n := by
    refine sm_congr hn (fun x x0 x1 => ?_)
    dsimp only
    by_cases q : x = a
    · rw [if_pos q, q]; lia
    · rw [if_neg q, h x x0 x1 q]; lia
  rw [e, sm_add, sm_single n hn h0, if_pos h1]
/-- what is paid for a ticket, and for its show -/
theorem cC_pay {S : Sg} {g : Gm} {t v : Int32} (hC : cC S g) (n3 : 0 ≤ g 336 0 ∧ g 336 0 ≤ 400) (s0 : 0 ≤ g 137 (nt t)) (s1 : g 137 (nt t) < g 321 0) (t0 : 0 ≤ t) (t1 : t < g 336 0) : cC (su (su S 73 (nt t) v) 57 (nt (g 137 (nt t))) (S.1 57 (nt (g 137 (nt t))) + (v - g 140 (nt t)))) (gu g 140 (nt t) v) := by
  have hwd : ∀ x, wd (gu g 140 (nt t) v) x = wd g x := fun _ => rfl
  have hpf : ∀ x, pf (gu g 140 (nt t) v) x = pf g x + (if g 137 (nt t) = x then v - g 140 (nt t) else 0) := fun x => by
    unfold pf
    have e := sm_upd (f := fun k => if g 137 (nt k) = x then g 140 (nt k) else 0) (f2 := fun k => if gu g 140 (nt t) v 137 (nt k) = x then gu g 140 (nt t) v 140 (nt k) else 0) (a := t) (nt_lt32 (g 336 0)) t0 (by rw [nI_nt0 n3.1]; exact t1) (fun k k0 _ k2 => by
      have : gu g 140 (nt t) v 140 (nt k) = g 140 (nt k) := gu_ne (Or.inr (fun z => k2 ((nt_inj k0 t0).mp z)))
      rw [this]
      rfl)
    refine e.trans ?_
    congr 1
    rw [gu_at]
    show (if g 137 (nt t) = x then v else 0) - (if g 137 (nt t) = x then g 140 (nt t) else 0) = _
    split
    · rfl
    · lia
  obtain ⟨c1, c2, c3, c4, c5, c6, c7, c8⟩ := hC
  have z1 : ∀ q ∈ colT, q.1 ≠ 57 ∧ (q.1 = 73 ↔ q.2.1 = 140) ∧ 300 ≤ q.2.2 := by decide
  have z2 : ∀ q ∈ idT, q.1 ≠ 57 ∧ q.1 ≠ 73 ∧ 300 ≤ q.2 := by decide
  have z3 : ∀ q ∈ scT, q.1 ≠ 57 ∧ q.1 ≠ 73 ∧ 300 ≤ q.2.2 := by decide
  have gz : ∀ c i, 300 ≤ c → gu g 140 (nt t) v c i = g c i := fun c i h => gu_ne (Or.inl (by omega))
  refine ⟨fun q hq i a b => ?_, fun q hq i a b => ?_, fun q hq => ?_, fun j hj => ?_, fun x a b => ?_, fun x a b => ?_, fun x a b => ?_, fun x y a b c d => ?_⟩
  · obtain ⟨q1, q2, q3⟩ := z1 q hq
    rw [gz _ _ q3] at b
    rw [su_ne (Or.inl q1)]
    by_cases e : q.1 = 73 ∧ nt i = nt t
    · rw [e.1, q2.mp e.1, e.2, su_at, gu_at]
    · rw [su_ne (by by_cases q9 : q.1 = 73; exact Or.inr (fun z => e ⟨q9, z⟩); exact Or.inl q9), gu_ne (by by_cases q9 : q.2.1 = 140; exact Or.inr (fun z => e ⟨q2.mpr q9, z⟩); exact Or.inl q9)]
      exact c1 q hq i a b
  · obtain ⟨q1, q2, q3⟩ := z2 q hq
    rw [gz _ _ q3] at b
    rw [su_ne (Or.inl q1), su_ne (Or.inl q2)]; exact c2 q hq i a b
  · obtain ⟨q1, q2, q3⟩ := z3 q hq
    rw [su_ne (Or.inl q1), su_ne (Or.inl q2), gz _ _ q3]; exact c3 q hq
  · rw [su_ne (Or.inl (by omega)), su_ne (Or.inl (by omega))]; exact c4 j hj
  · have b : x < g 321 0 := b
    rw [hpf]
    by_cases e : x = g 137 (nt t)
    · rw [e, su_at, if_pos rfl, c5 _ s0 s1]
    · rw [su_ne (Or.inr (fun z => e ((nt_inj a s0).mp z))), su_ne (Or.inl (by omega)), if_neg (fun z => e z.symm), c5 x a b]
      lia
  · rw [su_ne (Or.inl (by omega)), su_ne (Or.inl (by omega))]; exact c6 x a b
  · rw [su_ne (Or.inl (by omega)), su_ne (Or.inl (by omega))]
    obtain ⟨q1, q2, q3⟩ := c7 x a b
    refine ⟨q1, q2, fun k k1 k2 => ?_⟩
    rw [su_ne (Or.inl (by omega)), su_ne (Or.inl (by omega))]
    exact q3 k k1 k2
  · rw [su_ne (Or.inl (by omega)), su_ne (Or.inl (by omega))]
    exact c8 x y a b c d
/-- the line is gone -/
theorem cC_clear2 {S : Sg} {g : Gm} {s : Int32} (hC : cC S g) (h0 : 0 ≤ s) (h1 : s < g 321 0) : cC (su (su S 82 (nt s) 0) 81 (nt s) 0) (gu g 128 (nt s) 0) := by
  have hwd : ∀ x, wd (gu g 128 (nt s) 0) x = wd g x := fun _ => rfl
  have hpf : ∀ x, pf (gu g 128 (nt s) 0) x = pf g x := fun _ => rfl
  obtain ⟨c1, c2, c3, c4, c5, c6, c7, c8⟩ := hC
  have z1 : ∀ q ∈ colT, q.1 ≠ 81 ∧ (q.1 = 82 ↔ q.2.1 = 128) ∧ 300 ≤ q.2.2 := by decide
  have z2 : ∀ q ∈ idT, q.1 ≠ 81 ∧ q.1 ≠ 82 ∧ 300 ≤ q.2 := by decide
  have z3 : ∀ q ∈ scT, q.1 ≠ 81 ∧ q.1 ≠ 82 ∧ 300 ≤ q.2.2 := by decide
  have gz : ∀ c i, 300 ≤ c → gu g 128 (nt s) 0 c i = g c i := fun c i h => gu_ne (Or.inl (by omega))
  refine ⟨fun q hq i a b => ?_, fun q hq i a b => ?_, fun q hq => ?_, fun j hj => ?_, fun x a b => ?_, fun x a b => ?_, fun x a b => ?_, fun x y a b c d => ?_⟩
  · obtain ⟨q1, q2, q3⟩ := z1 q hq
    rw [gz _ _ q3] at b
    rw [su_ne (Or.inl q1)]
    by_cases e : q.1 = 82 ∧ nt i = nt s
    · rw [e.1, q2.mp e.1, e.2, su_at, gu_at]
    · rw [su_ne (by by_cases q9 : q.1 = 82; exact Or.inr (fun z => e ⟨q9, z⟩); exact Or.inl q9), gu_ne (by by_cases q9 : q.2.1 = 128; exact Or.inr (fun z => e ⟨q2.mpr q9, z⟩); exact Or.inl q9)]
      exact c1 q hq i a b
  · obtain ⟨q1, q2, q3⟩ := z2 q hq
    rw [gz _ _ q3] at b
    rw [su_ne (Or.inl q1), su_ne (Or.inl q2)]; exact c2 q hq i a b
  · obtain ⟨q1, q2, q3⟩ := z3 q hq
    rw [su_ne (Or.inl q1), su_ne (Or.inl q2), gz _ _ q3]; exact c3 q hq
  · rw [su_ne (Or.inl (by omega)), su_ne (Or.inl (by omega))]; exact c4 j hj
  · rw [su_ne (Or.inl (by omega)), su_ne (Or.inl (by omega))]; exact c5 x a b
  · rw [su_ne (Or.inl (by omega)), su_ne (Or.inl (by omega))]; exact c6 x a b
  · by_cases e : x = s
    · rw [e, su_at, gu_at]
      exact ⟨by decide, by decide, fun k k1 k2 => by lia⟩
    · have ne : nt x ≠ nt s := fun z => e ((nt_inj a h0).mp z)
      rw [su_ne (Or.inr ne), su_ne (Or.inr ne), gu_ne (Or.inr ne)]
      obtain ⟨q1, q2, q3⟩ := c7 x a b
      refine ⟨q1, q2, fun k k1 k2 => ?_⟩
      rw [su_ne (Or.inl (by omega)), su_ne (Or.inl (by omega))]
      exact q3 k k1 k2
  · rw [su_ne (Or.inl (by omega)), su_ne (Or.inl (by omega))]
    exact c8 x y a b c d
theorem cC_clear {S : Sg} {g : Gm} {s : Int32} (hC : cC S g) (hI : Ia g) (h0 : 0 ≤ s) (h1 : s < g 321 0) : cC (su (su S 82 (nt s) 0) 81 (nt s) 0) (gu g 128 (nt s) 0) := cC_clear2 hC h0 h1
section ST
variable {n : Nat} {g : Gm} {S : Sg} {Q : Nat → Int32 → Sg → Prop}
theorem sells_eq {s p a : Int32} : gSells g s p a = gu (gTick g s p a) 126 (nt (48 * s + p)) (g 336 0) := by
  funext c i
  unfold gSells gTick
  by_cases e : c = 336
  · subst e
    rw [gu_ne (c := 126) (by simp)]
    by_cases e2 : i = 0
    · rw [e2, gu_at, gu_at]
    · rw [gu_ne (Or.inr e2), gu_ne (Or.inr e2), gu_ne (by simp)]
  · rw [gu_ne (Or.inl e)]
    by_cases e2 : c = 126 ∧ i = nt (48 * s + p)
    · rw [e2.1, e2.2, gu_at, gu_at]
    · have e3 : c ≠ 126 ∨ i ≠ nt (48 * s + p) := by by_cases q : c = 126; exact Or.inr (fun z => e2 ⟨q, z⟩); exact Or.inl q
      rw [gu_ne e3, gu_ne e3, gu_ne (Or.inl e)]
theorem bd_tk {S1 : Sg} (hB : Bd n S) (h1 : S1.2.1 = S.2.1 + 2) (h2 : S1.2.2 = S.2.2 + 705) (h3 : bz S1 = bz S + 1) : Bd n S1 := by
  obtain ⟨b1, b2⟩ := hB
  exact ⟨by omega, by omega⟩
theorem addTicket_ok {s p ag : Int32} (hC : cC S g) (hI : Ia g) (hB : Bd n S) (hn : n ≤ 20000) (h0 : 0 ≤ s) (h1 : s < g 321 0) (p0 : 0 ≤ p) (p1 : p < wd g s) (hlt : g 336 0 < 400) (q : ∀ S1, cC S1 (gSells g s p ag) → fr S S1 → Bd n S1 → Q 0 (g 336 0) S1) : w_X7_addTicket s p ag S Q := by
  have n3 := n336 (ia_n hI)
  obtain ⟨r1, r2⟩ := bd_room hB hn hC (ia_n hI)
  unfold w_X7_addTicket w_size
  rw [c_12_5 hC]
  refine kz (priceFor_ok hC hI h0 h1 (kz ⟨⟨by omega, by omega⟩, ?_⟩))
  intro v8 e8 S0 e0
  have e8 : v8 = g 336 0 := e8.trans (c_10_8 hC)
  subst e8
  unfold w_X6_init
  intro S1 e1
  refine ⟨by lia, ?_⟩
  intro S2 e2 S3 e3 S4 e4 S5 e5
  refine kz (aTick hC hI hlt e0 e1 e2 e3 e4 e5 ⟨by omega, by omega⟩ fun T ⟨q1, q2, q3, q4⟩ q5 q5b q6 q7 q8 q9 => kz ?_)
  have y54 : T.1 54 (nt s) = s := by rw [q5 54 _ (by unfold lsC; omega) (fun z => absurd z (by decide))]; exact c_54 hC h0 h1
  have y57 : T.1 57 (nt s) = pf g s := by rw [q5b 57 _ (by omega)]; exact c_57 hC h0 h1
  have y58 : T.1 58 (nt s) = wd g s := by rw [q5b 58 _ (by omega)]; exact c_58 hC h0 h1
  rw [y54, y58]
  refine ⟨by lia, vp_of2 p0 p1, ?_⟩
  rintro F1 rfl F2 rfl
  rw [su_ne (Or.inl (by omega)), y57]
  -- the ticket in the plain columns, and what is paid for its show
  have hpf : ∀ x, 0 ≤ x → pf (gTick g s p ag) x = pf g x + (if s = x then prc g s ag else 0) := fun x x0 => by
    unfold pf
    have e : gTick g s p ag 336 0 = g 336 0 + 1 := rfl
    rw [e, sm_succ n3.1 (by lia)]
    congr 1
    · refine sm_congr (nt_lt32 _) (fun k k0 k1 => ?_)
      rw [nI_nt0 n3.1] at k1
      have ne : nt k ≠ nt (g 336 0) := fun z => by rw [(nt_inj k0 n3.1).mp z] at k1; lia
      unfold gTick
      rw [gu_ne (c' := 137) (by simp), gu_ne (c' := 137) (Or.inr ne), gu_ne (c' := 137) (Or.inr ne), gu_ne (c' := 137) (Or.inr ne), gu_ne (c' := 137) (Or.inr ne), gu_ne (c' := 140) (by simp), gu_ne (c' := 140) (Or.inr ne), gu_ne (c' := 140) (Or.inr ne), gu_ne (c' := 140) (Or.inr ne), gu_ne (c' := 140) (Or.inr ne)]
    · have y7 : gTick g s p ag 137 (nt (g 336 0)) = s := by unfold gTick; rw [gu_ne (by simp), gu_ne (by simp), gu_ne (by simp), gu_ne (by simp), gu_at]
      have y0 : gTick g s p ag 140 (nt (g 336 0)) = prc g s ag := by unfold gTick; rw [gu_ne (by simp), gu_at]
      rw [y7, y0]
  have hT : cC (su T 57 (nt s) (pf g s + prc g s ag)) (gTick g s p ag) := by
    have z1 : ∀ q ∈ colT, q.1 ≠ 57 := by decide
    have z2 : ∀ q ∈ idT, q.1 ≠ 57 := by decide
    have z3 : ∀ q ∈ scT, q.1 ≠ 57 := by decide
    refine ⟨fun q hq i a b => ?_, fun q hq i a b => ?_, fun q hq => ?_, fun j hj => ?_, fun x a b => ?_, fun x a b => ?_, fun x a b => ?_, fun x y a b c d => ?_⟩
    · rw [su_ne (Or.inl (z1 q hq))]; exact q1 q hq i a b
    · rw [su_ne (Or.inl (z2 q hq))]; exact q2 q hq i a b
    · rw [su_ne (Or.inl (z3 q hq))]; exact q3 q hq
    · rw [su_ne (Or.inl (by omega))]; exact q4 j hj
    · have b : x < g 321 0 := b
      rw [hpf x a]
      by_cases e : x = s
      · rw [e, su_at, if_pos rfl]
      · rw [su_ne (Or.inr (fun z => e ((nt_inj a h0).mp z))), q5b _ _ (by omega), if_neg (fun z => e z.symm), c_57 hC a b]
        lia
    · rw [su_ne (Or.inl (by omega)), q5b _ _ (by omega)]; exact c_58 hC a b
    · rw [su_ne (Or.inl (by omega)), q5b _ _ (by omega)]
      obtain ⟨k1, k2, k3⟩ := c_ln hC a b
      refine ⟨k1, k2, fun k x1 x2 => ?_⟩
      rw [su_ne (Or.inl (by omega)), q5b _ _ (by omega)]
      exact k3 k x1 x2
    · rw [su_ne (Or.inl (by omega)), q5b _ _ (by omega)]; exact c_pl hC a b c d
  have hIT : wd (gTick g s p ag) s = wd g s := rfl
  have w48 : ∀ {s : Int32}, 0 ≤ s → s < g 321 0 → 1 ≤ wd g s ∧ wd g s ≤ 48 := fun h0 h1 => wd_le (ia_h hI) (ia_s hI) h0 h1
  obtain ⟨-, -, -, -, -, -, -, -, -, -, -, b12, -⟩ := ia_n hI
  have hF : cC (su (su T 57 (nt s) (pf g s + prc g s ag)) (1000 + 2 * nt s) (nt p) (g 336 0)) (gSells g s p ag) := by
    rw [sells_eq]
    obtain ⟨d1, d2, d3, d4, d5, d6, d7, d8⟩ := hT
    have gz : ∀ c i, c ≠ 126 → gu (gTick g s p ag) 126 (nt (48 * s + p)) (g 336 0) c i = gTick g s p ag c i := fun c i h => gu_ne (Or.inl h)
    have x1 : ∀ q ∈ colT, q.1 < 100 ∧ q.2.1 ≠ 126 ∧ 300 ≤ q.2.2 := by decide
    have x2 : ∀ q ∈ idT, q.1 < 100 ∧ 300 ≤ q.2 := by decide
    have x3 : ∀ q ∈ scT, q.1 < 100 ∧ 300 ≤ q.2.2 := by decide
    refine ⟨fun q hq i a b => ?_, fun q hq i a b => ?_, fun q hq => ?_, fun j hj => ?_, fun x a b => ?_, fun x a b => ?_, fun x a b => ?_, fun x y a b c d => ?_⟩
    · obtain ⟨k1, k2, k3⟩ := x1 q hq
      rw [gz _ _ (by omega)] at b
      rw [su_ne (Or.inl (by omega)), gz _ _ k2]; exact d1 q hq i a b
    · obtain ⟨k1, k3⟩ := x2 q hq
      rw [gz _ _ (by omega)] at b
      rw [su_ne (Or.inl (by omega))]; exact d2 q hq i a b
    · obtain ⟨k1, k3⟩ := x3 q hq
      rw [su_ne (Or.inl (by omega)), gz _ _ (by omega)]; exact d3 q hq
    · rw [su_ne (Or.inl (by omega))]; exact d4 j hj
    · rw [su_ne (Or.inl (by omega))]; exact d5 x a b
    · rw [su_ne (Or.inl (by omega))]; exact d6 x a b
    · rw [su_ne (Or.inl (by omega))]
      obtain ⟨k1, k2, k3⟩ := d7 x a b
      refine ⟨k1, k2, fun k x1 x2 => ?_⟩
      rw [su_ne (Or.inl (by omega))]
      exact k3 k x1 x2
    · have b : x < g 321 0 := b
      have d : y < wd g x := d
      have e1 := w48 h0 h1
      have e2 := w48 a b
      by_cases e : x = s ∧ y = p
      · rw [e.1, e.2, su_at]
        unfold plv
        rw [gu_at, if_neg (by lia)]
      · have ne : ¬ nt (48 * x + y) = nt (48 * s + p) := fun z => e ((ix_inj a (by lia) c (by lia) h0 (by lia) p0 (by lia)).mp z)
        have hp : plv (gu (gTick g s p ag) 126 (nt (48 * s + p)) (g 336 0)) x y = plv (gTick g s p ag) x y := by
          unfold plv
          rw [gu_ne (c' := 126) (Or.inr ne), gu_ne (c' := 127) (Or.inl (by decide))]
        rw [hp, su_ne]
        · exact d8 x y a b c d
        · by_cases z : x = s
          · exact Or.inr (fun u => e ⟨z, (nt_inj c p0).mp u⟩)
          · exact Or.inl (fun u => z ((nt_inj a h0).mp (by omega)))
  have sw : (su (su T (1000 + 2 * nt s) (nt p) (g 336 0)) 57 (nt s) (pf g s + prc g s ag)).1 = (su (su T 57 (nt s) (pf g s + prc g s ag)) (1000 + 2 * nt s) (nt p) (g 336 0)).1 := by
    funext c i
    by_cases e : c = 57 ∧ i = nt s
    · rw [e.1, e.2, su_at, su_ne (Or.inl (by omega)), su_at]
    · have e3 : c ≠ 57 ∨ i ≠ nt s := by by_cases z : c = 57; exact Or.inr (fun u => e ⟨z, u⟩); exact Or.inl z
      rw [su_ne e3]
      by_cases e4 : c = 1000 + 2 * nt s ∧ i = nt p
      · rw [e4.1, e4.2, su_at, su_at]
      · have e5 : c ≠ 1000 + 2 * nt s ∨ i ≠ nt p := by by_cases z : c = 1000 + 2 * nt s; exact Or.inr (fun u => e4 ⟨z, u⟩); exact Or.inl z
        rw [su_ne e5, su_ne e5, su_ne e3]
  refine q _ (cC_1 hF sw) (fr_su (fr_su (fun c i h => q5b c i (by have := mc_lc h; omega)) (by unfold mc; omega)) (by unfold mc; omega)) ?_
  refine bd_tk hB q6 q7 ?_
  rw [bz_su (by decide), bz_su (by omega)]
  exact q8
end ST
