/-! join: both sides -/
theorem sm_pos {f : Int32 → Int32} (h : ∀ x, f x = 0 ∨ f x = 1) : ∀ n : Nat, n ≤ 1000 → 0 ≤ (sm f n).toInt ∧ (sm f n).toInt ≤ n ∧ ((∃ x : Int32, 0 ≤ x ∧ x < nI n ∧ f x = 1) → 1 ≤ (sm f n).toInt)
  | 0, _ => by
    refine ⟨by show (0 : Int) ≤ (0 : Int32).toInt; decide, by show (0 : Int32).toInt ≤ ((0 : Nat) : Int); decide, ?_⟩
    rintro ⟨x, x0, x1, -⟩
    have x1 : x < 0 := x1
    lia
  | n + 1, hn => by
    have e1 : (nI n).toInt = n := nI_toInt (by omega)
    have e2 : (nI (n + 1)).toInt = (n + 1 : Nat) := nI_toInt (by omega)
    obtain ⟨a, b, c⟩ := sm_pos h n (by omega)
    have z0 : (0 : Int32).toInt = 0 := rfl
    have z1 : (1 : Int32).toInt = 1 := rfl
    have hs : sm f (n + 1) = sm f n + f (nI n) := rfl
    have hf : (f (nI n)).toInt = 0 ∨ (f (nI n)).toInt = 1 := (h (nI n)).imp (fun z => by rw [z]; rfl) (fun z => by rw [z]; rfl)
    have hs2 : (sm f (n + 1)).toInt = (sm f n).toInt + (f (nI n)).toInt := by rw [hs, z_add (by omega) (by omega)]
    refine ⟨by omega, by omega, ?_⟩
    rintro ⟨x, x0, x1, x2⟩
    by_cases e : x = nI n
    · rw [e] at x2
      rw [x2] at hs2
      omega
    · have e3 : x.toInt ≠ n := fun z => e (Int32.toInt_inj.mp (z.trans e1.symm))
      have := c ⟨x, x0, by rw [z_lt] at x1 ⊢; omega, x2⟩
      omega
section JN
variable {n : Nat} {g : Gm} {S S0 : Sg} {Q : Nat → Int32 → Sg → Prop}
theorem free_full {s : Int32} (hI : Ia g) (h0 : 0 ≤ s) (h1 : s < g 321 0) : sm (fun p => if plv g s p = -1 then 1 else 0) (nt (wd g s)) ≤ 0 ↔ full g s := by
  have w := wd_le (ia_h hI) (ia_s hI) h0 h1
  have hw := nt_le (n := 48) (by decide) (show wd g s ≤ nI 48 from w.2)
  obtain ⟨a, b, c⟩ := sm_pos (f := fun p => if plv g s p = -1 then 1 else 0) (fun x => by split <;> simp) (nt (wd g s)) (by omega)
  have z0 : (0 : Int32).toInt = 0 := rfl
  constructor
  · intro h p p0 p1 hf
    obtain ⟨e1, -, -⟩ := plv_cases hI h0 h1 p0 (show p < 48 by lia)
    have := c ⟨p, p0, by rw [nI_nt0 (by lia)]; exact p1, if_pos (e1.mpr hf)⟩
    rw [z_le] at h
    omega
  · intro h
    rw [sm_zero _ (nt_lt32 _) (fun x x0 x1 => by
      rw [nI_nt0 (by lia)] at x1
      obtain ⟨e1, -, -⟩ := plv_cases hI h0 h1 x0 (show x < 48 by lia)
      rw [if_neg (fun z => h x x0 x1 (e1.mp z))])]
    decide
theorem mem_eq {s M P : Int32} (hM : 0 ≤ M ∧ M ≤ P ∧ P ≤ 40) (h : ∀ k : Int32, 0 ≤ k → k < P → g 130 (nt (40 * s + k)) = if k < M then 1 else 0) : ∀ m : Nat, m ≤ 40 → M ≤ nI m → nI m ≤ P → mem g s m = M
  | 0, _, h1, _ => by
    have h1 : M ≤ 0 := h1
    show (0 : Int32) = M
    lia
  | m + 1, hm, h1, h2 => by
    have e1 : (nI m).toInt = m := nI_toInt (by omega)
    have e6 : 0 ≤ nI m := by rw [z_le, e1]; exact Int.natCast_nonneg m
    have e7 : nI m ≤ 1000 := by rw [z_le, e1]; show (m : Int) ≤ 1000; omega
    rw [nI1] at h1 h2
    unfold mem
    have := h (nI m) e6 (by lia)
    by_cases e : nI m < M
    · rw [if_pos e] at this
      rw [this, if_neg (by decide), nI1]
      lia
    · rw [if_neg e] at this
      rw [if_pos this]
      exact mem_eq hM h m (by omega) (by lia) (by lia)
theorem join_at {s x k age m a : Int32} (ha : jAt g s m = a) (h0 : 0 ≤ s) (h1 : s < 30) (x0 : 0 ≤ x) (x1 : x < 30) (k0 : 0 ≤ k) (k1 : k < 40) (a0 : 0 ≤ a) (a1 : a ≤ g 128 (nt s)) (p1 : g 128 (nt s) < 40) :
    gJoin g s age m 129 (nt (40 * x + k)) = (if x = s ∧ k = a then age else if x = s ∧ a < k ∧ k ≤ g 128 (nt s) then g 129 (nt (40 * x + (k - 1))) else g 129 (nt (40 * x + k))) ∧
    gJoin g s age m 130 (nt (40 * x + k)) = (if x = s ∧ k = a then m else if x = s ∧ a < k ∧ k ≤ g 128 (nt s) then 0 else g 130 (nt (40 * x + k))) := by
  have q1 : nt (40 * x + k) = nt (40 * s + a) ↔ x = s ∧ k = a := ln_inj x0 x1 k0 k1 h0 h1 a0 (by lia)
  have q2 : nt (40 * s + a) < nt (40 * x + k) ↔ 40 * s + a < 40 * x + k := ntlt (by lia) (by lia)
  have q3 : nt (40 * x + k) ≤ nt (40 * s + g 128 (nt s)) ↔ 40 * x + k ≤ 40 * s + g 128 (nt s) := ntle (by lia) (by lia)
  have q4 : (nt (40 * s + a) < nt (40 * x + k) ∧ nt (40 * x + k) ≤ nt (40 * s + g 128 (nt s))) ↔ (x = s ∧ a < k ∧ k ≤ g 128 (nt s)) := by
    rw [q2, q3]
    constructor
    · rintro ⟨z1, z2⟩
      have : x = s := by lia
      exact ⟨this, by lia, by lia⟩
    · rintro ⟨rfl, z1, z2⟩
      constructor <;> lia
  unfold gJoin
  rw [ha]
  constructor
  · rw [if_neg (by simp)]
    by_cases e : x = s ∧ k = a
    · rw [if_pos ⟨rfl, q1.mpr e⟩, if_pos e]
    · rw [if_neg (fun z => e (q1.mp z.2)), if_neg (by simp), if_neg e]
      by_cases e2 : x = s ∧ a < k ∧ k ≤ g 128 (nt s)
      · have e3 : nt (40 * x + k) - 1 = nt (40 * x + (k - 1)) := by
          have := ntS (x := 40 * x + (k - 1)) (by lia) (by lia)
          rw [show 40 * x + (k - 1) + 1 = 40 * x + k by lia] at this
          omega
        rw [if_pos ⟨rfl, q4.mpr e2⟩, if_pos e2, e3]
      · rw [if_neg (fun z => e2 (q4.mp z.2)), if_neg (by simp), if_neg e2]
  · rw [if_neg (by simp), if_neg (by simp)]
    by_cases e : x = s ∧ k = a
    · rw [if_pos ⟨rfl, q1.mpr e⟩, if_pos e]
    · rw [if_neg (fun z => e (q1.mp z.2)), if_neg (by simp), if_neg e]
      by_cases e2 : x = s ∧ a < k ∧ k ≤ g 128 (nt s)
      · rw [if_pos ⟨rfl, q4.mpr e2⟩, if_pos e2]
      · rw [if_neg (fun z => e2 (q4.mp z.2)), if_neg e2]
theorem join_o {s age m : Int32} {c i : Nat} (h : c ≠ 128 ∧ c ≠ 129 ∧ c ≠ 130) : gJoin g s age m c i = g c i := by
  unfold gJoin
  rw [if_neg (fun z => h.1 z.1), if_neg (fun z => h.2.1 z.1), if_neg (fun z => h.2.2 z.1), if_neg (fun z => h.2.1 z.1), if_neg (fun z => h.2.2 z.1)]
theorem join_8 {s age m : Int32} {i : Nat} : gJoin g s age m 128 i = if i = nt s then g 128 (nt s) + 1 else g 128 i := by
  unfold gJoin
  by_cases e : i = nt s
  · rw [if_pos ⟨rfl, e⟩, if_pos e]
  · rw [if_neg (fun z => e z.2), if_neg (by simp), if_neg (by simp), if_neg (by simp), if_neg (by simp), if_neg e]
theorem cC_join {F : Sg} {s age m a M : Int32} (hC : cC S g) (hI : Ia g) (h0 : 0 ≤ s) (h1 : s < g 321 0) (hm : m = 0 ∨ m = 1) (ha : jAt g s m = a) (hM : M = S.1 81 (nt s)) (haM : a = if m = 0 then g 128 (nt s) else M) (hp : g 128 (nt s) < 40) (hF : ∀ c i, c ≠ 1001 + 2 * nt s → ¬ (c = 81 ∧ i = nt s) → ¬ (c = 82 ∧ i = nt s) → F.1 c i = S.1 c i) (f82 : F.1 82 (nt s) = g 128 (nt s) + 1) (f81 : F.1 81 (nt s) = M + m) (fC : ∀ k : Int32, 0 ≤ k → k < 40 → F.1 (1001 + 2 * nt s) (nt k) = if k = a then age else if a < k ∧ k ≤ g 128 (nt s) then S.1 (1001 + 2 * nt s) (nt (k - 1)) else S.1 (1001 + 2 * nt s) (nt k)) : cC F (gJoin g s age m) := by
  obtain ⟨-, -, -, -, -, -, -, -, -, -, -, b12, -⟩ := ia_n hI
  have a6 := ia_s hI
  obtain ⟨c1, c2, c3, c4, c5, c6, c7, c8⟩ := hC
  have z1 : ∀ q ∈ colT, q.1 ≠ 81 ∧ (q.1 = 82 ↔ q.2.1 = 128) ∧ q.2.1 ≠ 129 ∧ q.2.1 ≠ 130 ∧ 300 ≤ q.2.2 ∧ q.1 < 100 := by decide
  have z2 : ∀ q ∈ idT, q.1 ≠ 81 ∧ q.1 ≠ 82 ∧ 300 ≤ q.2 ∧ q.1 < 100 := by decide
  have z3 : ∀ q ∈ scT, q.1 ≠ 81 ∧ q.1 ≠ 82 ∧ 300 ≤ q.2.2 ∧ q.1 < 100 := by decide
  have gz : ∀ c i, 300 ≤ c → gJoin g s age m c i = g c i := fun c i h => join_o (by omega)
  have hwd : ∀ x, wd (gJoin g s age m) x = wd g x := fun x => by unfold wd; rw [join_o (by omega), join_o (by omega), join_o (by omega)]
  obtain ⟨m0, m1, m2⟩ := c7 s h0 h1
  rw [← hM] at m0 m1 m2
  refine ⟨fun q hq i a b => ?_, fun q hq i a b => ?_, fun q hq => ?_, fun j hj => ?_, fun x a b => ?_, fun x a b => ?_, fun x x0 b => ?_, fun x y a b c d => ?_⟩
  · obtain ⟨q1, q2, q3, q4, q5, q6⟩ := z1 q hq
    rw [gz _ _ q5] at b
    by_cases e : q.1 = 82
    · rw [q2.mp e, join_8]
      by_cases e2 : nt i = nt s
      · rw [if_pos e2, e, e2]; exact f82
      · rw [if_neg e2, hF _ _ (by omega) (by omega) (fun z => e2 z.2), ← q2.mp e]; exact c1 q hq i a b
    · rw [hF _ _ (by omega) (by omega) (by omega), join_o ⟨fun z => e (q2.mpr z), q3, q4⟩]; exact c1 q hq i a b
  · obtain ⟨q1, q2, q3, q4⟩ := z2 q hq
    rw [gz _ _ q3] at b
    rw [hF _ _ (by omega) (by omega) (by omega)]; exact c2 q hq i a b
  · obtain ⟨q1, q2, q3, q4⟩ := z3 q hq
    rw [hF _ _ (by omega) (by omega) (by omega), gz _ _ q3]; exact c3 q hq
  · rw [hF _ _ (by omega) (by omega) (by omega)]; exact c4 j hj
  · rw [gz _ _ (by omega)] at b
    rw [hF _ _ (by omega) (by omega) (by omega), c5 x a b]
    unfold pf
    rw [gz _ _ (by omega)]
    refine sm_congr (nt_lt32 _) (fun t _ _ => ?_)
    rw [join_o (by omega), join_o (by omega)]
  · rw [gz _ _ (by omega)] at b
    rw [hF _ _ (by omega) (by omega) (by omega), hwd]; exact c6 x a b
  · rw [gz _ _ (by omega)] at b
    rw [join_8]
    obtain ⟨r0, r1, r2⟩ := c7 x x0 b
    obtain ⟨-, -, -, -, -, -, -, -, s1, s2⟩ := a6 x x0 b
    have a0 : 0 ≤ a := by rw [haM]; split <;> lia
    have a1 : a ≤ g 128 (nt s) := by rw [haM]; split <;> lia
    by_cases e : x = s
    · subst e
      rw [if_pos rfl, f81]
      refine ⟨by rcases hm with h | h <;> rw [h] <;> lia, by rcases hm with h | h <;> rw [h] <;> lia, fun k k0 k1 => ?_⟩
      obtain ⟨j1, j2⟩ := join_at (age := age) ha h0 (by lia) x0 (by lia) k0 (show k < 40 by lia) a0 a1 hp
      rw [fC k k0 (by lia), j1, j2]
      refine ⟨?_, ?_⟩
      · by_cases e1 : k = a
        · rw [if_pos e1, if_pos ⟨rfl, e1⟩]
        · rw [if_neg e1, if_neg (show ¬ (x = x ∧ k = a) from fun z => e1 z.2)]
          by_cases e2 : a < k ∧ k ≤ g 128 (nt x)
          · rw [if_pos e2, if_pos ⟨rfl, e2⟩]
            exact (m2 (k - 1) (by lia) (by lia)).1
          · rw [if_neg e2, if_neg (show ¬ (x = x ∧ a < k ∧ k ≤ g 128 (nt x)) from fun z => e2 z.2)]
            exact (m2 k k0 (by lia)).1
      · by_cases e1 : k = a
        · rw [if_pos ⟨rfl, e1⟩]
          rcases hm with h | h
          · rw [h] at haM ⊢
            rw [if_pos rfl] at haM
            rw [if_neg (by lia)]
          · rw [h] at haM ⊢
            rw [if_neg (by decide)] at haM
            rw [if_pos (by lia)]
        · rw [if_neg (show ¬ (x = x ∧ k = a) from fun z => e1 z.2)]
          by_cases e2 : a < k ∧ k ≤ g 128 (nt x)
          · rw [if_pos ⟨rfl, e2⟩]
            rcases hm with h | h
            · rw [h] at haM
              rw [if_pos rfl] at haM
              lia
            · rw [h] at haM ⊢
              rw [if_neg (by decide)] at haM
              rw [if_neg (by lia)]
          · rw [if_neg (show ¬ (x = x ∧ a < k ∧ k ≤ g 128 (nt x)) from fun z => e2 z.2), (m2 k k0 (by lia)).2]
            by_cases e3 : k < M
            · rw [if_pos e3, if_pos (by rcases hm with h | h <;> rw [h] <;> lia)]
            · rw [if_neg e3, if_neg]
              rcases hm with h | h
              · rw [h]; lia
              · rw [h] at haM ⊢
                rw [if_neg (by decide)] at haM
                lia
    · have ne : nt x ≠ nt s := fun z => e ((nt_inj x0 h0).mp z)
      rw [if_neg ne, hF _ _ (by omega) (fun z => ne z.2) (fun z => ne z.2)]
      refine ⟨r0, r1, fun k k0 k1 => ?_⟩
      obtain ⟨j1, j2⟩ := join_at (age := age) ha h0 (by lia) x0 (by lia) k0 (show k < 40 by lia) a0 a1 hp
      rw [hF _ _ (by omega) (by omega) (by omega), j1, j2, if_neg (fun z => e z.1), if_neg (fun z => e z.1), if_neg (fun z => e z.1), if_neg (fun z => e z.1)]
      exact r2 k k0 k1
  · rw [gz _ _ (by omega)] at b
    rw [hwd] at d
    rw [hF _ _ (by omega) (by omega) (by omega), c8 x y a b c d]
    unfold plv
    rw [join_o (by omega), join_o (by omega)]
theorem comeIn_ok {s age m : Int32} (hm : m = 0 ∨ m = 1) (hC : cC S g) (hI1 : Ia g) (hB : Bd n S) (s0 : 0 ≤ s) (s1 : s < g 321 0) (r7 : g 128 (nt s) < 40) (hQ : cPost n (0, jAt g s m, gJoin g s age m) S Q) : w_X4_comeIn s age m S Q := by
  obtain ⟨-, -, -, -, -, -, -, -, p0, p1⟩ := ia_s hI1 s s0 s1
  obtain ⟨-, -, -, -, -, -, -, -, -, -, -, b12, -⟩ := ia_n hI1
  obtain ⟨m0, m1, m2⟩ := c_ln hC s0 s1
  have hmem : mem g s (nt (g 128 (nt s))) = S.1 81 (nt s) := mem_eq (P := g 128 (nt s)) ⟨m0, m1, p1⟩ (fun k k0 k1 => (m2 k k0 k1).2) _ (nt_le (n := 40) (by decide) p1) (by rw [nI_nt0 p0]; exact m1) (by rw [nI_nt0 p0]; lia)
  have main : ∀ a : Int32, a = (if m = 0 then g 128 (nt s) else S.1 81 (nt s)) → w_X4_comeIn_15 Q s age m a S := fun a ha => by
    have a0 : 0 ≤ a := by rw [ha]; split <;> lia
    have a1 : a ≤ g 128 (nt s) := by rw [ha]; split <;> lia
    have hj : jAt g s m = a := by unfold jAt; rw [hmem, ha]
    have hQ := hQ
    rw [hj] at hQ
    unfold w_X4_comeIn_15
    rw [c_80 hC s0 s1, c_82 hC s0 s1]
    refine ⟨by lia, fun z => by have : (40 : Int32) ≤ g 128 (nt s) := z; lia, fun _ => ⟨fun _ => ?_, fun z => by lia⟩⟩
    rintro v5 rfl
    have L : ∀ (d : Nat) (x : Int32) (T : Sg), d ≤ 100 → a ≤ x → x = a + nI d → x ≤ g 128 (nt s) → (∀ c i, c ≠ 1001 + 2 * nt s → T.1 c i = S.1 c i) → (∀ k : Int32, 0 ≤ k → k < 40 → T.1 (1001 + 2 * nt s) (nt k) = if x < k ∧ k ≤ g 128 (nt s) then S.1 (1001 + 2 * nt s) (nt (k - 1)) else S.1 (1001 + 2 * nt s) (nt k)) → T.2 = S.2 → w_X4_comeIn_44 Q (d + 1) s age m a x T := by
      intro d
      have fin : ∀ T : Sg, (∀ c i, c ≠ 1001 + 2 * nt s → T.1 c i = S.1 c i) → (∀ k : Int32, 0 ≤ k → k < 40 → T.1 (1001 + 2 * nt s) (nt k) = if a < k ∧ k ≤ g 128 (nt s) then S.1 (1001 + 2 * nt s) (nt (k - 1)) else S.1 (1001 + 2 * nt s) (nt k)) → T.2 = S.2 → (¬ T.1 80 (nt s) < 0 ∧ (vp_in a 40 ∧ (∀ S1, S1 = su T (1001 + 2 * (nt (T.1 80 (nt s)))) (nt a) age → (∀ S2, S2 = su S1 82 (nt s) ((S1.1 82 (nt s)) + 1) → ((m = 0 → Q 0 a S2) ∧ (¬ m = 0 → (∀ S3, S3 = su S2 81 (nt s) ((S2.1 81 (nt s)) + 1) → Q 0 a S3))))))) := fun T t1 t2 t3 => by
        have y80 : T.1 80 (nt s) = s := by rw [t1 80 _ (by omega)]; exact c_80 hC s0 s1
        have y82 : T.1 82 (nt s) = g 128 (nt s) := by rw [t1 82 _ (by omega)]; exact c_82 hC s0 s1
        rw [y80]
        refine ⟨by lia, vp_of a0 (by show a < 40; lia) (by decide), ?_⟩
        rintro S1 rfl S2 rfl
        rw [su_ne (S := T) (Or.inl (show 82 ≠ 1001 + 2 * nt s by omega)), y82]
        have tS : ∀ c i, c ≠ 1001 + 2 * nt s → ¬ (c = 82 ∧ i = nt s) → (su (su T (1001 + 2 * nt s) (nt a) age) 82 (nt s) (g 128 (nt s) + 1)).1 c i = S.1 c i := fun c i h1 h2 => by
          rw [su_ne (by by_cases z : c = 82; exact Or.inr (fun u => h2 ⟨z, u⟩); exact Or.inl z), su_ne (Or.inl h1)]
          exact t1 c i h1
        have tC : ∀ k : Int32, 0 ≤ k → k < 40 → (su (su T (1001 + 2 * nt s) (nt a) age) 82 (nt s) (g 128 (nt s) + 1)).1 (1001 + 2 * nt s) (nt k) = if k = a then age else if a < k ∧ k ≤ g 128 (nt s) then S.1 (1001 + 2 * nt s) (nt (k - 1)) else S.1 (1001 + 2 * nt s) (nt k) := fun k k0 k1 => by
          rw [su_ne (Or.inl (by omega))]
          by_cases e : k = a
          · rw [e, su_at, if_pos rfl]
          · rw [su_ne (Or.inr (fun z => e ((nt_inj k0 a0).mp z))), if_neg e]
            exact t2 k k0 k1
        have bz1 : ∀ i, (su (su T (1001 + 2 * nt s) (nt a) age) 82 (nt s) (g 128 (nt s) + 1)).1 12 i = S.1 12 i := fun i => tS 12 i (by omega) (by omega)
        refine ⟨fun z => ?_, fun z => ?_⟩
        · refine hQ _ (cC_join hC hI1 s0 s1 hm hj rfl ha r7 (fun c i h1 h2 h3 => tS c i h1 h3) su_at ?_ tC) (fun c i h => tS c i (by have := mc_lc h; omega) (by have := mc_lc h; omega)) (bd_up (bd_same hB t3 bz1))
          rw [tS 81 _ (by omega) (by omega), z]
          lia
        · have hm1 := hm.resolve_left z
          rintro S3 rfl
          refine hQ _ (cC_join hC hI1 s0 s1 hm hj rfl ha r7 (fun c i h1 h2 h3 => ?_) ?_ ?_ (fun k k0 k1 => ?_)) (fun c i h => ?_) (bd_up (bd_same hB t3 (fun i => by rw [su_ne (Or.inl (by decide))]; exact bz1 i)))
          · rw [su_ne (by by_cases z9 : c = 81; exact Or.inr (fun u => h2 ⟨z9, u⟩); exact Or.inl z9)]
            exact tS c i h1 h3
          · rw [su_ne (Or.inl (by decide)), su_at]
          · rw [su_at, tS 81 _ (by omega) (by omega), hm1]
          · rw [su_ne (Or.inl (by omega))]
            exact tC k k0 k1
          · rw [su_ne (Or.inl (by have := mc_lc h; omega))]
            exact tS c i (by have := mc_lc h; omega) (by have := mc_lc h; omega)
      induction d with
      | zero =>
        intro x T hd x0 x1 x2 t1 t2 t3
        have e : x = a := by rw [x1]; show a + 0 = a; lia
        subst e
        rw [w_X4_comeIn_44]
        exact ⟨fun _ => fin T t1 t2 t3, fun z => by lia⟩
      | succ d ih =>
        intro x T hd x0 x1 x2 t1 t2 t3
        have e5 : (nI d).toInt = d := nI_toInt (by omega)
        have e6 : 0 ≤ nI d := by rw [z_le, e5]; exact Int.natCast_nonneg d
        have e7 : nI d ≤ 1000 := by rw [z_le, e5]; show (d : Int) ≤ 1000; omega
        rw [nI1] at x1
        have y80 : T.1 80 (nt s) = s := by rw [t1 80 _ (by omega)]; exact c_80 hC s0 s1
        rw [w_X4_comeIn_44, y80]
        refine ⟨fun z => by lia, fun z => ⟨by lia, by lia, vp_of (by lia) (by show x - 1 < 40; lia) (by decide), vp_of (by lia) (by show x < 40; lia) (by decide), ?_⟩⟩
        rintro S4 rfl
        refine ih (x + (-1)) _ (by omega) (by lia) (by lia) (by lia) (fun c i hc => by rw [su_ne (Or.inl hc)]; exact t1 c i hc) (fun k k0 k1 => ?_) t3
        by_cases e : k = x
        · rw [e, su_at, if_pos ⟨by lia, x2⟩, t2 (x - 1) (by lia) (by lia), if_neg (by lia)]
        · rw [su_ne (Or.inr (fun z => e ((nt_inj k0 (by lia)).mp z))), t2 k k0 k1]
          by_cases e2 : x < k ∧ k ≤ g 128 (nt s)
          · rw [if_pos e2, if_pos ⟨by lia, e2.2⟩]
          · rw [if_neg e2, if_neg (fun z => e2 ⟨by have := z.1; lia, z.2⟩)]
    have hd : 0 ≤ g 128 (nt s) - a := by lia
    have hd2 := nt_le (n := 40) (by decide) (show g 128 (nt s) - a ≤ nI 40 by show _ ≤ (40 : Int32); lia)
    exact ⟨nt (g 128 (nt s) - a) + 1, L _ (g 128 (nt s)) S (by omega) a1 (by rw [nI_nt0 hd]; lia) (by lia) (fun _ _ _ => rfl) (fun k k0 k1 => by rw [if_neg (by lia)]) rfl⟩
  unfold w_X4_comeIn
  rw [c_82 hC s0 s1]
  exact ⟨fun z => main _ (by rw [if_pos z]), fun z => main _ (by rw [if_neg z])⟩
theorem cls_join {s age m : Int32} (hm : m = 0 ∨ m = 1) (hC : cC S g) (hI : Iv g) (hB : Bd n S) (hn : n < 20000) (hQ : cPost n (rJoin g s age m) S Q) : w_X7_join s age m S Q := by
  have hI1 := hI.1
  unfold w_X7_join
  refine showAt_ok hC (fun r1 => kz ?_) (fun r1 => cThr1 (by decide) hC hI hB hn (cP_of hQ (if_neg r1)))
  refine needWithin_ok (fun r2 => kz ?_) (fun r2 => cThr1 (by decide) hC hI hB hn (cP_of hQ (by unfold rJoin; rw [if_pos r1, if_neg r2])))
  have bad : ¬ (g 125 (nt s) = 0 ∧ full g s ∧ see g s age ∧ g 128 (nt s) < 40) → cPost n (2, 0, g) S Q := fun z => cP_of hQ (by unfold rJoin; rw [if_pos r1, if_pos r2, if_neg z])
  refine needPlanned_ok hC r1.1 r1.2 (fun r4 => kz ?_) (fun r4 => cThr1 (by decide) hC hI hB hn (bad (fun z => r4 z.1)))
  refine free_ok hC hI1 r1.1 r1.2 (kz ⟨fun r5 => ?_, fun r5 => cThr hC hI hB hn (bad (fun z => r5 ((free_full hI1 r1.1 r1.2).mpr z.2.1)))⟩)
  have r5 := (free_full hI1 r1.1 r1.2).mp r5
  refine needOld_ok hC hI1 r1.1 r1.2 (fun r6 => kz ?_) (fun r6 => cThr1 (by decide) hC hI hB hn (bad (fun z => r6 z.2.2.1)))
  rw [c_55 hC r1.1 r1.2, c_82 hC r1.1 r1.2]
  refine ⟨by have := r1.1; lia, fun r7 => ⟨by have := r1.1; lia, ?_⟩, fun r7 => cThr hC hI hB hn (bad (fun z => r7 z.2.2.2))⟩
  have hQ := cP_of hQ (show rJoin g s age m = (0, jAt g s m, gJoin g s age m) by unfold rJoin; rw [if_pos r1, if_pos r2, if_pos ⟨r4, r5, r6, r7⟩])
  exact comeIn_ok hm hC hI1 hB r1.1 r1.2 r7 (fun S1 a b c => kz (hQ S1 a b c))
end JN
