/-! the class's calls against g: helpers, halls, films, keys -/
def cPost (n : Nat) (r : Rr) (S : Sg) (Q : Nat → Int32 → Sg → Prop) : Prop := ∀ S1, cC S1 r.2.2 → fr S S1 → Bd (n + 1) S1 → Q r.1 r.2.1 S1
theorem cP_of {n : Nat} {r r2 : Rr} {S : Sg} {Q : Nat → Int32 → Sg → Prop} (h : cPost n r S Q) (e : r = r2) : cPost n r2 S Q := e ▸ h
/-- a throw -/
theorem cThr {n k : Nat} {g : Gm} {S : Sg} {Q : Nat → Int32 → Sg → Prop} (hC : cC S g) (hI : Iv g) (hB : Bd n S) (hn : n < 20000) (h : cPost n (k, 0, g) S Q) : S.2.1 + 1 ≤ nB1 ∧ S.2.2 + 6 ≤ nB2 ∧ Q k 0 (tS S) := by
  obtain ⟨b1, b2⟩ := bd_room hB (by omega) hC (i_n hI)
  exact ⟨by omega, by omega, h _ (cC_1 hC rfl) (fun _ _ _ => rfl) (bd_tS hB)⟩
theorem cThr1 {n k : Nat} {g : Gm} {S : Sg} {Q : Nat → Int32 → Sg → Prop} {A : Prop} (hk : k ≠ 0) (hC : cC S g) (hI : Iv g) (hB : Bd n S) (hn : n < 20000) (h : cPost n (k, 0, g) S Q) : S.2.1 + 1 ≤ nB1 ∧ S.2.2 + 6 ≤ nB2 ∧ ((k = 0 → A) ∧ (¬ k = 0 → Q k 0 (tS S))) := by
  obtain ⟨b1, b2, b3⟩ := cThr hC hI hB hn h
  exact ⟨b1, b2, kn hk b3⟩
/-- the call ends here, and nothing has changed -/
theorem cRet {n : Nat} {v : Int32} {g : Gm} {S : Sg} {Q : Nat → Int32 → Sg → Prop} (hC : cC S g) (hB : Bd n S) (h : cPost n (0, v, g) S Q) : Q 0 v S := h _ hC fr_rf (bd_up hB)
theorem needWithin_ok {a lo hi : Int32} {S : Sg} {Q : Nat → Int32 → Sg → Prop} (h0 : inr a lo hi → Q 0 0 S) (h1 : ¬ inr a lo hi → S.2.1 + 1 ≤ nB1 ∧ S.2.2 + 6 ≤ nB2 ∧ Q 1 0 (tS S)) : w_X7_needWithin a lo hi S Q := by
  unfold w_X7_needWithin w_X7_needWithin_10
  exact ⟨fun h => h1 (fun q => by have := q.1; lia), fun h => ⟨fun h2 => h0 ⟨by lia, h2⟩, fun h2 => h1 (fun q => h2 q.2)⟩⟩
theorem hallAt_ok {a : Int32} {S : Sg} {g : Gm} {Q : Nat → Int32 → Sg → Prop} (hC : cC S g) (h0 : isX g 302 a → Q 0 a S) (h1 : ¬ isX g 302 a → S.2.1 + 1 ≤ nB1 ∧ S.2.2 + 6 ≤ nB2 ∧ Q 3 0 (tS S)) : w_X7_hallAt a S Q := by
  unfold w_X7_hallAt w_X7_hallAt_15 w_size w_get
  rw [c_12_0 hC]
  exact ⟨fun h => h1 (fun q => by have := q.1; lia), fun h => kz ⟨fun h2 => ⟨⟨h, by rw [c_12_0 hC]; exact h2⟩, kz (h0 ⟨by lia, h2⟩)⟩, fun h2 => h1 (fun q => h2 q.2)⟩⟩
theorem filmAt_ok {a : Int32} {S : Sg} {g : Gm} {Q : Nat → Int32 → Sg → Prop} (hC : cC S g) (h0 : isX g 307 a → Q 0 a S) (h1 : ¬ isX g 307 a → S.2.1 + 1 ≤ nB1 ∧ S.2.2 + 6 ≤ nB2 ∧ Q 3 0 (tS S)) : w_X7_filmAt a S Q := by
  unfold w_X7_filmAt w_X7_filmAt_15 w_size w_get
  rw [c_12_1 hC]
  exact ⟨fun h => h1 (fun q => by have := q.1; lia), fun h => kz ⟨fun h2 => ⟨⟨h, by rw [c_12_1 hC]; exact h2⟩, kz (h0 ⟨by lia, h2⟩)⟩, fun h2 => h1 (fun q => h2 q.2)⟩⟩
theorem showAt_ok {a : Int32} {S : Sg} {g : Gm} {Q : Nat → Int32 → Sg → Prop} (hC : cC S g) (h0 : isX g 321 a → Q 0 a S) (h1 : ¬ isX g 321 a → S.2.1 + 1 ≤ nB1 ∧ S.2.2 + 6 ≤ nB2 ∧ Q 3 0 (tS S)) : w_X7_showAt a S Q := by
  unfold w_X7_showAt w_X7_showAt_15 w_size w_get
  rw [c_12_3 hC]
  exact ⟨fun h => h1 (fun q => by have := q.1; lia), fun h => kz ⟨fun h2 => ⟨⟨h, by rw [c_12_3 hC]; exact h2⟩, kz (h0 ⟨by lia, h2⟩)⟩, fun h2 => h1 (fun q => h2 q.2)⟩⟩
theorem needHold_ok {a : Int32} {S : Sg} {g : Gm} {Q : Nat → Int32 → Sg → Prop} (hC : cC S g) (h0 : isX g 331 a → Q 0 0 S) (h1 : ¬ isX g 331 a → S.2.1 + 1 ≤ nB1 ∧ S.2.2 + 6 ≤ nB2 ∧ Q 3 0 (tS S)) : w_X7_needHold a S Q := by
  unfold w_X7_needHold w_X7_needHold_15 w_size
  rw [c_12_4 hC]
  exact ⟨fun h => h1 (fun q => by have := q.1; lia), fun h => kz ⟨fun h2 => h0 ⟨by lia, h2⟩, fun h2 => h1 (fun q => h2 q.2)⟩⟩
theorem needTicket_ok {a : Int32} {S : Sg} {g : Gm} {Q : Nat → Int32 → Sg → Prop} (hC : cC S g) (h0 : isX g 336 a → Q 0 0 S) (h1 : ¬ isX g 336 a → S.2.1 + 1 ≤ nB1 ∧ S.2.2 + 6 ≤ nB2 ∧ Q 3 0 (tS S)) : w_X7_needTicket a S Q := by
  unfold w_X7_needTicket w_X7_needTicket_15 w_size
  rw [c_12_5 hC]
  exact ⟨fun h => h1 (fun q => by have := q.1; lia), fun h => kz ⟨fun h2 => h0 ⟨by lia, h2⟩, fun h2 => h1 (fun q => h2 q.2)⟩⟩
/-! new objects -/
theorem add_ne {j c i : Nat} {S S1 : Sg} (h : addR j S S1) (hc : ¬ lsC c) : S1.1 c i = S.1 c i := by
  unfold lsC at hc
  exact h.1 c i (by omega) (by omega) (by omega) (by omega) (by omega) (by omega) (by omega)
theorem cNew {S S0 S1 : Sg} {g g1 : Gm} {N j : Nat} {K : List Nat} (hC : cC S g) (hb : 0 ≤ g N 0 ∧ g N 0 ≤ 400)
    (hK : (∀ q ∈ colT, q.1 ∈ K → q.2.2 = N) ∧ (∀ q ∈ idT, q.1 ∈ K → q.2 = N) ∧ (∀ c ∈ K, c ≠ 6 ∧ c ≠ 7 ∧ c ≠ 13 ∧ c ≠ 12) ∧ j < 6 ∧ ∀ q ∈ scT, q.1 = 12 → (q.2.1 = j ↔ q.2.2 = N))
    (hA : ∀ c i, c ≠ 10 → c < 100 → (c ∈ K → i ≠ nt (g N 0)) → S0.1 c i = S.1 c i)
    (h10 : ∀ q ∈ scT, q.1 = 10 → S0.1 10 q.2.1 = if q.2.2 = N then g N 0 + 1 else g q.2.2 0)
    (hadd : addR j S0 S1)
    (hg : ∀ q ∈ colT, ∀ i, (q.2.2 = N → i ≠ nt (g N 0)) → g1 q.2.1 i = g q.2.1 i)
    (hz : ∀ c, 300 ≤ c → g1 c 0 = if c = N then g N 0 + 1 else g c 0)
    (hn : ∀ q ∈ colT, q.2.2 = N → S0.1 q.1 (nt (g N 0)) = g1 q.2.1 (nt (g N 0)))
    (hi : ∀ q ∈ idT, q.2 = N → S0.1 q.1 (nt (g N 0)) = g N 0) : cCol S1 g1 ∧ cId S1 g1 ∧ cSc S1 g1 ∧ cRow S1 := by
  obtain ⟨k1, k2, k3, k4, k5⟩ := hK
  have a1 : ∀ q ∈ colT, ¬ lsC q.1 ∧ 300 ≤ q.2.2 := by unfold lsC; decide
  have a2 : ∀ q ∈ idT, ¬ lsC q.1 ∧ 300 ≤ q.2 := by unfold lsC; decide
  have a3 : ∀ q ∈ scT, (q.1 = 10 ∧ q.2.1 ≠ 2 ∨ q.1 = 12 ∨ q.1 = 6 ∧ q.2.2 = 300 ∧ q.2.1 = 0 ∨ q.1 = 7 ∧ q.2.2 = 301 ∧ q.2.1 = 0) ∧ 300 ≤ q.2.2 := by decide
  have a4 : ∃ q ∈ scT, q.1 = 12 ∧ q.2.2 = N ∧ q.2.1 = j := by
    have : ∀ j, j < 6 → ∃ q ∈ scT, q.1 = 12 ∧ q.2.1 = j := by decide
    obtain ⟨q, q1, q2, q3⟩ := this j k4
    exact ⟨q, q1, q2, (k5 q q1 q2).mp q3, q3⟩
  have a5 : N ≠ 300 ∧ N ≠ 301 := by
    obtain ⟨q, q1, q2, q3, q4⟩ := a4
    have : ∀ q ∈ scT, q.1 = 12 → q.2.2 ≠ 300 ∧ q.2.2 ≠ 301 := by decide
    have := this q q1 q2
    omega
  have hS : ∀ c i, c < 100 → ¬ lsC c → (c ∈ K → i ≠ nt (g N 0)) → S1.1 c i = S.1 c i := fun c i h1 h2 h3 => by
    rw [add_ne hadd h2]
    exact hA c i (by unfold lsC at h2; omega) h1 h3
  refine ⟨cCol_grow hC.1 hb hS hg (fun q hq => hz _ (a1 q hq).2) k1 (fun q hq e => ?_), cId_grow hC.2.1 hb hS (fun q hq => hz _ (a2 q hq).2) k2 (fun q hq e => ?_), fun q hq => ?_, fun i hi9 => ?_⟩
  · rw [add_ne hadd (a1 q hq).1]; exact hn q hq e
  · rw [add_ne hadd (a2 q hq).1]; exact hi q hq e
  · rw [hz _ (a3 q hq).2]
    rcases (a3 q hq).1 with ⟨e, e2⟩ | e | ⟨e, e2, e3⟩ | ⟨e, e2, e3⟩
    · rw [e, hadd.2.1 _ e2]
      exact h10 q hq e
    · rw [e, hadd.2.2.1]
      have e3 := k5 q hq e
      have hh := hC.2.2.1 q hq
      rw [e] at hh
      have kk : ∀ i, S0.1 12 i = S.1 12 i := fun i => hA 12 i (by decide) (by decide) (fun q9 => absurd rfl (k3 12 q9).2.2.2)
      by_cases e4 : q.2.1 = j
      · rw [if_pos e4, if_pos (e3.mp e4), kk, ← e4, hh, e3.mp e4]
      · rw [if_neg e4, if_neg (fun q9 => e4 (e3.mpr q9)), kk, hh]
    · have hh := hC.2.2.1 q hq
      rw [e, e3] at hh ⊢
      rw [add_ne hadd (by unfold lsC; decide), hA 6 0 (by decide) (by decide) (fun q9 => absurd rfl (k3 6 q9).1), hh, if_neg (by omega)]
    · have hh := hC.2.2.1 q hq
      rw [e, e3] at hh ⊢
      rw [add_ne hadd (by unfold lsC; decide), hA 7 0 (by decide) (by decide) (fun q9 => absurd rfl (k3 7 q9).2.1), hh, if_neg (by omega)]
  · by_cases e : i = j
    · rw [e]; exact Or.inr hadd.2.2.2.1.1
    · rw [hadd.2.2.2.1.2 i e, hA 13 i (by decide) (by decide) (fun q9 => absurd rfl (k3 13 q9).2.2.1)]
      exact c_13 hC hi9
theorem cSpec {S S1 : Sg} {g g1 : Gm} (hC : cC S g) (hS : ∀ c i, (c = 57 ∨ c = 58 ∨ c = 81 ∨ 1000 ≤ c) → S1.1 c i = S.1 c i) (h321 : g1 321 0 = g 321 0)
    (hpf : ∀ s, pf g1 s = pf g s) (hwd : ∀ s, 0 ≤ s → s < g 321 0 → wd g1 s = wd g s) (hl : ∀ c i, 126 ≤ c → c ≤ 130 → g1 c i = g c i) : cPaid S1 g1 ∧ cLen S1 g1 ∧ cLine S1 g1 ∧ cPl S1 g1 := by
  refine ⟨fun s a b => ?_, fun s a b => ?_, fun s a b => ?_, fun s p a b c d => ?_⟩
  · rw [h321] at b
    rw [hS _ _ (by omega), hpf]; exact c_57 hC a b
  · rw [h321] at b
    rw [hS _ _ (by omega), hwd s a b]; exact c_58 hC a b
  · rw [h321] at b
    rw [hS _ _ (by omega), hl 128 _ (by omega) (by omega)]
    obtain ⟨q1, q2, q3⟩ := c_ln hC a b
    refine ⟨q1, q2, fun k k1 k2 => ?_⟩
    rw [hS _ _ (by omega), hl 129 _ (by omega) (by omega), hl 130 _ (by omega) (by omega)]
    exact q3 k k1 k2
  · rw [h321] at b
    rw [hwd s a b] at d
    rw [hS _ _ (by omega)]
    unfold plv
    rw [hl 126 _ (by omega) (by omega), hl 127 _ (by omega) (by omega)]
    exact c_pl hC a b c d
theorem bz_add {S S0 S1 : Sg} {j : Nat} (hj : j < 6) (hadd : addR j S0 S1) (hA : ∀ i, S0.1 12 i = S.1 12 i) (h0 : 0 ≤ S.1 12 j) (h1 : S.1 12 j ≤ 400) : bz S1 = bz S + 1 := by
  unfold bz
  simp only [hadd.2.2.1, hA]
  have e := ntS h0 (by lia)
  match j, hj with
  | 0, _ | 1, _ | 2, _ | 3, _ | 4, _ | 5, _ => simp only [Nat.reduceEqDiff, if_true, if_false, eq_self, reduceCtorEq]; omega
theorem suK {S : Sg} {c i n c' : Nat} {v : Int32} {K : List Nat} (h : c ∉ K ∨ i ≠ n) (hc : c' ∈ K) : (su S c' n v).1 c i = S.1 c i := su_ne (h.imp_left (fun q e => q (by rw [e]; exact hc)))
theorem guK {g : Gm} {c i n c' : Nat} {v : Int32} {K : List Nat} (h : c ∉ K ∨ i ≠ n) (hc : c' ∈ K) : gu g c' n v c i = g c i := gu_ne (h.imp_left (fun q e => q (by rw [e]; exact hc)))
