/-! what keeps cC: a new object, a field that changes on both sides -/
theorem kz {A B : Prop} (h : A) : ((0 : Nat) = 0 → A) ∧ (¬ (0 : Nat) = 0 → B) := ⟨fun _ => h, fun q => absurd rfl q⟩
theorem kn {A B : Prop} {k : Nat} (hk : k ≠ 0) (h : B) : (k = 0 → A) ∧ (¬ k = 0 → B) := ⟨fun q => absurd q hk, fun _ => h⟩
theorem i32_lt1 {i n : Int32} (h : i < n + 1) (h0 : 0 ≤ n) (h2 : n ≤ 1000) : i < n ∨ i = n := by
  by_cases q : i = n
  · exact Or.inr q
  · exact Or.inl (by lia)
def lsC (c : Nat) : Prop := c = 10 ∨ c = 11 ∨ c = 12 ∨ c = 13 ∨ c = 14 ∨ c = 16 ∨ c = 17
theorem pf_eq {g g1 : Gm} (h1 : g1 336 0 = g 336 0) (hn : 0 ≤ g 336 0 ∧ g 336 0 ≤ 400) (h2 : ∀ t : Int32, 0 ≤ t → t < g 336 0 → g1 137 (nt t) = g 137 (nt t) ∧ g1 140 (nt t) = g 140 (nt t)) {s : Int32} : pf g1 s = pf g s := by
  unfold pf
  rw [h1]
  refine sm_congr (nt_lt32 _) fun x a b => ?_
  rw [nI_nt0 hn.1] at b
  rw [(h2 x a b).1, (h2 x a b).2]
theorem wd_eq {g g1 : Gm} {s : Int32} (h1 : g1 123 (nt s) = g 123 (nt s)) (h2 : g1 103 (nt (g 123 (nt s))) = g 103 (nt (g 123 (nt s)))) (h3 : g1 104 (nt (g 123 (nt s))) = g 104 (nt (g 123 (nt s)))) : wd g1 s = wd g s := by
  unfold wd
  rw [h1, h2, h3]
theorem wd_le {g : Gm} (hh : I_h g) (hs : I_s g) {s : Int32} (h0 : 0 ≤ s) (h1 : s < g 321 0) : 1 ≤ wd g s ∧ wd g s ≤ 48 := by
  obtain ⟨-, -, a, b, -⟩ := hs s h0 h1
  obtain ⟨c1, c2, c3, c4⟩ := hh _ a b
  unfold wd
  have e := z_mul (x := g 103 (nt (g 123 (nt s)))) (y := g 104 (nt (g 123 (nt s))))
  rw [z_le] at c1 c2 c3 c4
  have h1 : (1 : Int32).toInt = 1 := rfl
  have h6 : (6 : Int32).toInt = 6 := rfl
  have h8 : (8 : Int32).toInt = 8 := rfl
  have h48 : (48 : Int32).toInt = 48 := rfl
  have b1 : 1 * 1 ≤ (g 103 (nt (g 123 (nt s)))).toInt * (g 104 (nt (g 123 (nt s)))).toInt := Int.mul_le_mul (by omega) (by omega) (by omega) (by omega)
  have b2 : (g 103 (nt (g 123 (nt s)))).toInt * (g 104 (nt (g 123 (nt s)))).toInt ≤ 6 * 8 := Int.mul_le_mul (by omega) (by omega) (by omega) (by omega)
  rw [z_le, z_le, e (by omega) (by omega)]
  omega
theorem ix_inj {s p s2 p2 : Int32} (h0 : 0 ≤ s) (h1 : s < 30) (h2 : 0 ≤ p) (h3 : p < 48) (h4 : 0 ≤ s2) (h5 : s2 < 30) (h6 : 0 ≤ p2) (h7 : p2 < 48) : nt (48 * s + p) = nt (48 * s2 + p2) ↔ s = s2 ∧ p = p2 := by
  rw [nt_inj (by lia) (by lia)]
  constructor
  · intro e; constructor <;> lia
  · rintro ⟨rfl, rfl⟩; rfl
theorem ln_inj {s p s2 p2 : Int32} (h0 : 0 ≤ s) (h1 : s < 30) (h2 : 0 ≤ p) (h3 : p < 40) (h4 : 0 ≤ s2) (h5 : s2 < 30) (h6 : 0 ≤ p2) (h7 : p2 < 40) : nt (40 * s + p) = nt (40 * s2 + p2) ↔ s = s2 ∧ p = p2 := by
  rw [nt_inj (by lia) (by lia)]
  constructor
  · intro e; constructor <;> lia
  · rintro ⟨rfl, rfl⟩; rfl
/-- a new object, in the plain columns -/
theorem cCol_grow {S S1 : Sg} {g g1 : Gm} {N : Nat} {K : List Nat} (h : cCol S g) (hb : 0 ≤ g N 0 ∧ g N 0 ≤ 400)
    (hS : ∀ c i, c < 100 → ¬ lsC c → (c ∈ K → i ≠ nt (g N 0)) → S1.1 c i = S.1 c i)
    (hg : ∀ q ∈ colT, ∀ i, (q.2.2 = N → i ≠ nt (g N 0)) → g1 q.2.1 i = g q.2.1 i)
    (hz : ∀ q ∈ colT, g1 q.2.2 0 = if q.2.2 = N then g N 0 + 1 else g q.2.2 0) (hK : ∀ q ∈ colT, q.1 ∈ K → q.2.2 = N)
    (hn : ∀ q ∈ colT, q.2.2 = N → S1.1 q.1 (nt (g N 0)) = g1 q.2.1 (nt (g N 0))) : cCol S1 g1 := by
  intro q hq i h0 h1
  have a1 : ∀ q ∈ colT, q.1 < 100 ∧ ¬ lsC q.1 := by unfold lsC; decide
  rw [hz q hq] at h1
  by_cases e : q.2.2 = N
  · rw [if_pos e] at h1
    rcases i32_lt1 h1 hb.1 (by lia) with e2 | e2
    · have e3 : nt i ≠ nt (g N 0) := fun q9 => by have := (nt_inj h0 hb.1).mp q9; rw [this] at e2; lia
      rw [hS q.1 _ (a1 q hq).1 (a1 q hq).2 (fun _ => e3), hg q hq _ (fun _ => e3)]
      exact h q hq i h0 (by rw [e]; exact e2)
    · rw [e2]; exact hn q hq e
  · rw [if_neg e] at h1
    rw [hS q.1 _ (a1 q hq).1 (a1 q hq).2 (fun q9 => absurd (hK q hq q9) e), hg q hq _ (fun q9 => absurd q9 e)]
    exact h q hq i h0 h1
theorem cId_grow {S S1 : Sg} {g g1 : Gm} {N : Nat} {K : List Nat} (h : cId S g) (hb : 0 ≤ g N 0 ∧ g N 0 ≤ 400)
    (hS : ∀ c i, c < 100 → ¬ lsC c → (c ∈ K → i ≠ nt (g N 0)) → S1.1 c i = S.1 c i)
    (hz : ∀ q ∈ idT, g1 q.2 0 = if q.2 = N then g N 0 + 1 else g q.2 0) (hK : ∀ q ∈ idT, q.1 ∈ K → q.2 = N)
    (hn : ∀ q ∈ idT, q.2 = N → S1.1 q.1 (nt (g N 0)) = g N 0) : cId S1 g1 := by
  intro q hq i h0 h1
  have a1 : ∀ q ∈ idT, q.1 < 100 ∧ ¬ lsC q.1 := by unfold lsC; decide
  rw [hz q hq] at h1
  by_cases e : q.2 = N
  · rw [if_pos e] at h1
    rcases i32_lt1 h1 hb.1 (by lia) with e2 | e2
    · have e3 : nt i ≠ nt (g N 0) := fun q9 => by have := (nt_inj h0 hb.1).mp q9; rw [this] at e2; lia
      rw [hS q.1 _ (a1 q hq).1 (a1 q hq).2 (fun _ => e3)]
      exact h q hq i h0 (by rw [e]; exact e2)
    · rw [e2]; exact hn q hq e
  · rw [if_neg e] at h1
    rw [hS q.1 _ (a1 q hq).1 (a1 q hq).2 (fun q9 => absurd (hK q hq q9) e)]
    exact h q hq i h0 h1
/-- a plain field that changes on both sides -/
theorem cC_su {S : Sg} {g : Gm} {a b n : Nat} {i v : Int32} (hq : (a, b, n) ∈ colT) (hb : b = 105 ∨ b = 106 ∨ (111 ≤ b ∧ b ≤ 115) ∨ b = 125 ∨ b = 135 ∨ b = 141) (hn : 0 ≤ g 336 0 ∧ g 336 0 ≤ 400) (h : cC S g) : cC (su S a (nt i) v) (gu g b (nt i) v) := by
  obtain ⟨h1, h2, h3, h4, h5, h6, h7, h8⟩ := h
  have z0 : ∀ q ∈ colT, ∀ q' ∈ colT, (q.1 = q'.1 ↔ q.2.1 = q'.2.1) := by decide
  have z1 : ∀ q ∈ colT, q.1 < 100 ∧ q.1 ≠ 57 ∧ q.1 ≠ 58 ∧ q.1 ≠ 81 ∧ q.1 ≠ 13 := by decide
  have z2 : ∀ q ∈ colT, ∀ q' ∈ idT, q.1 ≠ q'.1 := by decide
  have z3 : ∀ q ∈ colT, ∀ q' ∈ scT, q.1 ≠ q'.1 := by decide
  have z4 : ∀ q ∈ colT, 300 ≤ q.2.2 := by decide
  have z5 : ∀ q ∈ idT, 300 ≤ q.2 := by decide
  have z6 : ∀ q ∈ scT, 300 ≤ q.2.2 := by decide
  have gz : ∀ c j, 300 ≤ c → gu g b (nt i) v c j = g c j := fun c j hc => gu_ne (Or.inl (by omega))
  have zq := z1 _ hq
  have hwd : ∀ s, wd (gu g b (nt i) v) s = wd g s := fun s => wd_eq (gu_ne (Or.inl (by omega))) (gu_ne (Or.inl (by omega))) (gu_ne (Or.inl (by omega)))
  have hpf : ∀ s, pf (gu g b (nt i) v) s = pf g s := fun s => pf_eq (gz _ _ (by omega)) hn (fun t _ _ => ⟨gu_ne (Or.inl (by omega)), gu_ne (Or.inl (by omega))⟩)
  refine ⟨fun q q9 j a9 b9 => ?_, fun q q9 j a9 b9 => ?_, fun q q9 => ?_, fun j hj => ?_, fun s a9 b9 => ?_, fun s a9 b9 => ?_, fun s a9 b9 => ?_, fun s p a9 b9 c9 d9 => ?_⟩
  · rw [gz _ _ (z4 q q9)] at b9
    by_cases e : q.1 = a ∧ nt j = nt i
    · have e2 : q.2.1 = b := (z0 _ q9 _ hq).mp e.1
      rw [e.1, e2, e.2, su_at, gu_at]
    · rw [su_ne (by by_cases q1 : q.1 = a; exact Or.inr (fun q2 => e ⟨q1, q2⟩); exact Or.inl q1), gu_ne (by by_cases q1 : q.2.1 = b; exact Or.inr (fun q2 => e ⟨(z0 _ q9 _ hq).mpr q1, q2⟩); exact Or.inl q1)]
      exact h1 q q9 j a9 b9
  · rw [gz _ _ (z5 q q9)] at b9
    rw [su_ne (Or.inl (Ne.symm (z2 _ hq _ q9)))]
    exact h2 q q9 j a9 b9
  · rw [gz _ _ (z6 q q9), su_ne (Or.inl (Ne.symm (z3 _ hq _ q9)))]
    exact h3 q q9
  · rw [su_ne (Or.inl (Ne.symm zq.2.2.2.2))]; exact h4 j hj
  · rw [gz _ _ (by omega)] at b9
    rw [su_ne (Or.inl (Ne.symm zq.2.1)), hpf]; exact h5 s a9 b9
  · rw [gz _ _ (by omega)] at b9
    rw [su_ne (Or.inl (Ne.symm zq.2.2.1)), hwd]; exact h6 s a9 b9
  · rw [gz _ _ (by omega)] at b9
    rw [su_ne (Or.inl (Ne.symm zq.2.2.2.1)), gu_ne (g := g) (c' := 128) (Or.inl (by omega))]
    obtain ⟨q1, q2, q3⟩ := h7 s a9 b9
    refine ⟨q1, q2, fun k k1 k2 => ?_⟩
    rw [su_ne (Or.inl (by omega)), gu_ne (c' := 129) (Or.inl (by omega)), gu_ne (c' := 130) (Or.inl (by omega))]
    exact q3 k k1 k2
  · rw [gz _ _ (by omega)] at b9
    rw [hwd] at d9
    rw [su_ne (Or.inl (by omega))]
    unfold plv
    rw [gu_ne (c' := 126) (Or.inl (by omega)), gu_ne (c' := 127) (Or.inl (by omega))]
    exact h8 s p a9 b9 c9 d9
/-- a plain number of the house -/
theorem cC_num {S : Sg} {g : Gm} {a b : Nat} {v : Int32} (hq : a = 6 ∧ b = 300 ∨ a = 7 ∧ b = 301) (h : cC S g) : cC (su S a 0 v) (gu g b 0 v) := by
  obtain ⟨h1, h2, h3, h4, h5, h6, h7, h8⟩ := h
  have z1 : ∀ q ∈ colT, q.1 ≠ 6 ∧ q.1 ≠ 7 ∧ q.2.1 < 300 ∧ q.2.2 ≠ 300 ∧ q.2.2 ≠ 301 := by decide
  have z2 : ∀ q ∈ idT, q.1 ≠ 6 ∧ q.1 ≠ 7 ∧ q.2 ≠ 300 ∧ q.2 ≠ 301 := by decide
  have z3 : ∀ q ∈ scT, (q.1 = 6 ↔ q.2.2 = 300) ∧ (q.1 = 7 ↔ q.2.2 = 301) ∧ ((q.1 = 6 ∨ q.1 = 7) → q.2.1 = 0) := by decide
  have gz : ∀ c j, c ≠ 300 → c ≠ 301 → gu g b 0 v c j = g c j := fun c j q1 q2 => gu_ne (Or.inl (by omega))
  have hwd : ∀ s, wd (gu g b 0 v) s = wd g s := fun s => wd_eq (gz _ _ (by omega) (by omega)) (gz _ _ (by omega) (by omega)) (gz _ _ (by omega) (by omega))
  have hpf : ∀ s, pf (gu g b 0 v) s = pf g s := fun s => by
    unfold pf
    rw [gz 336 0 (by omega) (by omega)]
    congr 1
    funext t
    rw [gz 137 _ (by omega) (by omega), gz 140 _ (by omega) (by omega)]
  refine ⟨fun q q9 j a9 b9 => ?_, fun q q9 j a9 b9 => ?_, fun q q9 => ?_, fun j hj => ?_, fun s a9 b9 => ?_, fun s a9 b9 => ?_, fun s a9 b9 => ?_, fun s p a9 b9 c9 d9 => ?_⟩
  · obtain ⟨p1, p2, p3, p4, p5⟩ := z1 q q9
    rw [gz _ _ p4 p5] at b9
    rw [su_ne (Or.inl (by omega)), gz _ _ (by omega) (by omega)]
    exact h1 q q9 j a9 b9
  · obtain ⟨p1, p2, p4, p5⟩ := z2 q q9
    rw [gz _ _ p4 p5] at b9
    rw [su_ne (Or.inl (by omega))]
    exact h2 q q9 j a9 b9
  · obtain ⟨p1, p2, p3⟩ := z3 q q9
    by_cases e : q.1 = a
    · have e2 : q.2.2 = b := by omega
      have e3 : q.2.1 = 0 := p3 (by omega)
      rw [e, e2, e3, su_at, gu_at]
    · rw [su_ne (Or.inl e), gu_ne (Or.inl (by omega))]
      exact h3 q q9
  · rw [su_ne (Or.inl (by omega))]; exact h4 j hj
  · rw [gz _ _ (by omega) (by omega)] at b9
    rw [su_ne (Or.inl (by omega)), hpf]; exact h5 s a9 b9
  · rw [gz _ _ (by omega) (by omega)] at b9
    rw [su_ne (Or.inl (by omega)), hwd]; exact h6 s a9 b9
  · rw [gz _ _ (by omega) (by omega)] at b9
    rw [su_ne (Or.inl (by omega)), gz 128 _ (by omega) (by omega)]
    obtain ⟨q1, q2, q3⟩ := h7 s a9 b9
    refine ⟨q1, q2, fun k k1 k2 => ?_⟩
    rw [su_ne (Or.inl (by omega)), gz 129 _ (by omega) (by omega), gz 130 _ (by omega) (by omega)]
    exact q3 k k1 k2
  · rw [gz _ _ (by omega) (by omega)] at b9
    rw [hwd] at d9
    rw [su_ne (Or.inl (by omega))]
    unfold plv
    rw [gz 126 _ (by omega) (by omega), gz 127 _ (by omega) (by omega)]
    exact h8 s p a9 b9 c9 d9
