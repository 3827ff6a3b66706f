/-! ofShow, ofHall, all, audit -/
theorem sm_add {f f2 : Int32 → Int32} : ∀ n : Nat, sm (fun x => f x + f2 x) n = sm f n + sm f2 n
  | 0 => rfl
  | n + 1 => by
    show sm (fun x => f x + f2 x) n + (f (nI n) + f2 (nI n)) = (sm f n + f (nI n)) + (sm f2 n + f2 (nI n))
    rw [sm_add n]; lia
theorem sm_one : ∀ n : Nat, sm (fun _ => 1) n = nI n
  | 0 => rfl
  | n + 1 => by
    show sm (fun _ => 1) n + 1 = _
    rw [sm_one n, nI1]
theorem sm_tail {f : Int32 → Int32} {n : Nat} : ∀ m : Nat, (n + m < 2147483648) → (∀ x, nI n ≤ x → x < nI (n + m) → f x = 0) → sm f (n + m) = sm f n
  | 0, _, _ => rfl
  | m + 1, hm, h => by
    have e1 : (nI (n + m)).toInt = (n + m : Nat) := nI_toInt (by omega)
    have e2 : (nI (n + (m + 1))).toInt = (n + (m + 1) : Nat) := nI_toInt (by omega)
    have e3 : (nI n).toInt = (n : Nat) := nI_toInt (by omega)
    show sm f (n + m) + f (nI (n + m)) = _
    rw [h (nI (n + m)) (by rw [z_le]; omega) (by rw [z_lt]; omega), sm_tail m (by omega) (fun x a b => h x a (by rw [z_lt] at b ⊢; omega))]
    lia
section A2
variable {n : Nat} {g : Gm} {S : Sg} {Q : Nat → Int32 → Sg → Prop}
theorem plv_cases (hI : Ia g) {s p : Int32} (h0 : 0 ≤ s) (h1 : s < g 321 0) (p0 : 0 ≤ p) (p1 : p < 48) : (plv g s p = -1 ↔ fre g s p) ∧ (plv g s p < 1000 ↔ g 126 (nt (48 * s + p)) ≠ -1 ∨ g 127 (nt (48 * s + p)) = -1) ∧ (g 126 (nt (48 * s + p)) ≠ -1 → g 127 (nt (48 * s + p)) = -1) := by
  obtain ⟨-, -, -, -, -, -, -, -, -, -, -, n2, -, n4, -, n6⟩ := ia_n hI
  obtain ⟨a, b⟩ := ia_pl hI s p h0 (by lia) p0 p1
  unfold plv fre
  refine ⟨?_, ?_, ?_⟩
  · split
    · split
      · rename_i x y; exact ⟨fun _ => ⟨x, y⟩, fun _ => rfl⟩
      · rename_i x y
        rcases b with b | b
        · exact absurd b y
        · exact ⟨fun e => by lia, fun e => absurd e.2 y⟩
    · rename_i x
      exact ⟨fun e => absurd e x, fun e => absurd e.1 x⟩
  · split
    · split
      · rename_i x y; exact ⟨fun _ => Or.inr y, fun _ => by decide⟩
      · rename_i x y
        rcases b with b | b
        · exact absurd b y
        · exact ⟨fun e => by lia, fun e => e.elim (fun z => absurd x z) (fun z => absurd z y)⟩
    · rename_i x
      refine ⟨fun _ => Or.inl x, fun _ => ?_⟩
      rcases a with a | a
      · exact absurd a x
      · lia
  · intro x
    rcases a with a | a
    · exact absurd a x
    · exact a.2.2.1
theorem free_ok {s : Int32} (hC : cC S g) (hI : Ia g) (h0 : 0 ≤ s) (h1 : s < g 321 0) (q : Q 0 (sm (fun p => if plv g s p = -1 then 1 else 0) (nt (wd g s))) S) : w_X5_countFree s S Q := by
  have hw := wd_le (ia_h hI) (ia_s hI) h0 h1
  have L : ∀ (d : Nat) (x : Int32), 0 ≤ x → x + nI d = wd g s → x ≤ wd g s → w_X5_countFree_4 Q (d + 1) s (sm (fun p => if plv g s p = -1 then 1 else 0) (nt x)) x S := by
    intro d
    induction d with
    | zero =>
      intro x a b c
      have e : x = wd g s := by rw [← b]; show x = x + 0; lia
      rw [w_X5_countFree_4, c_54 hC h0 h1, c_58 hC h0 h1, nI_nt0 (by lia), e]
      exact ⟨by lia, fun _ => q, fun w => by lia⟩
    | succ d ih =>
      intro x a b c
      rw [w_X5_countFree_4, c_54 hC h0 h1, c_58 hC h0 h1, nI_nt0 (by lia)]
      refine ⟨by lia, fun w => ?_, fun w => ⟨by lia, vp_of2 a (by lia), ?_⟩⟩
      · rw [show x = wd g s by lia]; exact q
      · have hx : x < wd g s := by lia
        have nx : ∀ v, v = sm (fun p => if plv g s p = -1 then 1 else 0) (nt x) + (if plv g s x = -1 then 1 else 0) → w_X5_countFree_4 Q (d + 1) s v (x + 1) S := fun v e => by
          have st := sm_succ (f := fun p => if plv g s p = -1 then 1 else 0) a (by lia)
          rw [e, ← st]
          exact ih (x + 1) (by lia) (by rw [nI1] at b; lia) (by lia)
        rw [c_pl hC h0 h1 a hx]
        unfold w_X5_countFree_26
        exact ⟨fun z => nx _ (by rw [if_pos z]), fun z => nx _ (by rw [if_neg z]; lia)⟩
  exact ⟨nt (wd g s) + 1, L _ 0 (by decide) (by rw [nI_nt0 (by lia)]; lia) (by lia)⟩
theorem held_ok {s : Int32} (hC : cC S g) (hI : Ia g) (h0 : 0 ≤ s) (h1 : s < g 321 0) (q : Q 0 (sm (fun p => if plv g s p < 1000 then 0 else 1) (nt (wd g s))) S) : w_X5_countHeld s S Q := by
  have hw := wd_le (ia_h hI) (ia_s hI) h0 h1
  have L : ∀ (d : Nat) (x : Int32), 0 ≤ x → x + nI d = wd g s → x ≤ wd g s → w_X5_countHeld_4 Q (d + 1) s (sm (fun p => if plv g s p < 1000 then 0 else 1) (nt x)) x S := by
    intro d
    induction d with
    | zero =>
      intro x a b c
      have e : x = wd g s := by rw [← b]; show x = x + 0; lia
      rw [w_X5_countHeld_4, c_54 hC h0 h1, c_58 hC h0 h1, nI_nt0 (by lia), e]
      exact ⟨by lia, fun _ => q, fun w => by lia⟩
    | succ d ih =>
      intro x a b c
      rw [w_X5_countHeld_4, c_54 hC h0 h1, c_58 hC h0 h1, nI_nt0 (by lia)]
      refine ⟨by lia, fun w => ?_, fun w => ⟨by lia, vp_of2 a (by lia), ?_⟩⟩
      · rw [show x = wd g s by lia]; exact q
      · have hx : x < wd g s := by lia
        have nx : ∀ v, v = sm (fun p => if plv g s p < 1000 then 0 else 1) (nt x) + (if plv g s x < 1000 then 0 else 1) → w_X5_countHeld_4 Q (d + 1) s v (x + 1) S := fun v e => by
          have st := sm_succ (f := fun p => if plv g s p < 1000 then 0 else 1) a (by lia)
          rw [e, ← st]
          exact ih (x + 1) (by lia) (by rw [nI1] at b; lia) (by lia)
        rw [c_pl hC h0 h1 a hx]
        unfold w_X5_countHeld_28
        exact ⟨fun z => nx _ (by rw [if_pos z]; lia), fun z => nx _ (by rw [if_neg z])⟩
  exact ⟨nt (wd g s) + 1, L _ 0 (by decide) (by rw [nI_nt0 (by lia)]; lia) (by lia)⟩
theorem cnt_w (hI : Ia g) {s : Int32} (h0 : 0 ≤ s) (h1 : s < g 321 0) {c : Nat} (hc : c = 126 ∨ c = 127) : cnt g c s 48 = cnt g c s (nt (wd g s)) := by
  have hw := wd_le (ia_h hI) (ia_s hI) h0 h1
  have hn := nt_le (n := 48) (by decide) (show wd g s ≤ nI 48 from hw.2)
  obtain ⟨-, -, -, -, -, -, -, -, -, -, -, n2, -⟩ := ia_n hI
  have e : (48 : Nat) = nt (wd g s) + (48 - nt (wd g s)) := by omega
  unfold cnt
  rw [e]
  refine sm_tail _ (by omega) (fun x a b => ?_)
  rw [nI_nt0 (by lia)] at a
  rw [← e] at b
  have b : x < 48 := b
  obtain ⟨p1, p2⟩ := ia_pl hI s x h0 (by lia) (by lia) b
  rcases hc with rfl | rfl
  · rcases p1 with p | p
    · rw [if_pos p]
    · lia
  · rcases p2 with p | p
    · rw [if_pos p]
    · lia
theorem cnt_held (hI : Ia g) {s : Int32} (h0 : 0 ≤ s) (h1 : s < g 321 0) : cnt g 127 s 48 = sm (fun p => if plv g s p < 1000 then 0 else 1) (nt (wd g s)) := by
  have hw := wd_le (ia_h hI) (ia_s hI) h0 h1
  rw [cnt_w hI h0 h1 (Or.inr rfl)]
  unfold cnt
  refine sm_congr (nt_lt32 _) (fun x a b => ?_)
  rw [nI_nt0 (by lia)] at b
  obtain ⟨-, p2, p3⟩ := plv_cases hI h0 h1 a (show x < 48 by lia)
  by_cases e : plv g s x < 1000
  · rw [if_pos e, if_pos]
    exact (p2.mp e).elim p3 (fun z => z)
  · rw [if_neg e, if_neg]
    exact fun z => e (p2.mpr (Or.inr z))
theorem cnt_sold (hI : Ia g) {s : Int32} (h0 : 0 ≤ s) (h1 : s < g 321 0) : cnt g 126 s 48 = wd g s - sm (fun p => if plv g s p = -1 then 1 else 0) (nt (wd g s)) - sm (fun p => if plv g s p < 1000 then 0 else 1) (nt (wd g s)) := by
  have hw := wd_le (ia_h hI) (ia_s hI) h0 h1
  rw [cnt_w hI h0 h1 (Or.inl rfl)]
  have e : sm (fun x => (fun p => (if g 126 (nt (48 * s + p)) = -1 then (0 : Int32) else 1) + (if plv g s p = -1 then 1 else 0)) x + (if plv g s x < 1000 then 0 else 1)) (nt (wd g s)) = sm (fun _ => 1) (nt (wd g s)) := by
    refine sm_congr (nt_lt32 _) (fun x a b => ?_)
    rw [nI_nt0 (by lia)] at b
    obtain ⟨p1, p2, p3⟩ := plv_cases hI h0 h1 a (show x < 48 by lia)
    show (if g 126 (nt (48 * s + x)) = -1 then (0 : Int32) else 1) + (if plv g s x = -1 then 1 else 0) + (if plv g s x < 1000 then 0 else 1) = 1
    by_cases e : g 126 (nt (48 * s + x)) = -1
    · rw [if_pos e]
      by_cases e2 : plv g s x = -1
      · rw [if_pos e2, if_pos (by rw [e2]; decide)]; rfl
      · rw [if_neg e2, if_neg]
        · rfl
        · intro z
          rcases p2.mp z with q | q
          · exact q e
          · exact e2 (p1.mpr ⟨e, q⟩)
    · rw [if_neg e, if_neg (fun z => e (p1.mp z).1), if_pos (p2.mpr (Or.inl e))]; rfl
  rw [sm_add, sm_add, sm_one, nI_nt0 (by lia)] at e
  unfold cnt
  lia
theorem cls_ofShow {s w : Int32} (hC : cC S g) (hI : Iv g) (hB : Bd n S) (hn : n < 20000) (hQ : cPost n (rOfShow g s w) S Q) : w_X7_ofShow s w S Q := by
  unfold w_X7_ofShow
  refine showAt_ok hC (fun r1 => kz ?_) (fun r1 => cThr1 (by decide) hC hI hB hn (cP_of hQ (if_neg (fun q => r1 q.1))))
  obtain ⟨⟨f1, f2⟩, g1, g2⟩ := i_s1 hI.1 r1.1 r1.2
  have hw := wd_le (i_h hI) (i_s hI) r1.1 r1.2
  have s0 := r1.1
  have hh : inr w 0 7 → cPost n (0, (if w = 0 then g 122 (nt s) else if w = 1 then g 123 (nt s) else if w = 2 then g 124 (nt s) else if w = 3 then g 125 (nt s) else if w = 4 then cnt g 126 s 48 else if w = 5 then cnt g 127 s 48 else if w = 6 then g 128 (nt s) else pf g s), g) S Q := fun h => cP_of hQ (if_pos ⟨r1, h⟩)
  have ok : ∀ v, inr w 0 7 → v = (if w = 0 then g 122 (nt s) else if w = 1 then g 123 (nt s) else if w = 2 then g 124 (nt s) else if w = 3 then g 125 (nt s) else if w = 4 then cnt g 126 s 48 else if w = 5 then cnt g 127 s 48 else if w = 6 then g 128 (nt s) else pf g s) → Q 0 v S := fun v h1 h2 => by rw [h2]; exact cRet hC hB (hh h1)
  unfold w_X5_countSold
  rw [c_51 hC r1.1 r1.2, c_52 hC r1.1 r1.2, c_53 hC r1.1 r1.2, c_54 hC r1.1 r1.2, c_55 hC r1.1 r1.2, c_56 hC r1.1 r1.2, c_57 hC r1.1 r1.2, c_58 hC r1.1 r1.2, c_82 hC r1.1 r1.2, c_30 hC f1 f2, c_20 hC g1 g2]
  refine ⟨fun b0 => ⟨by lia, ok _ (by rw [b0]; decide) (by rw [if_pos b0])⟩, fun b0 => ⟨fun b1 => ⟨by lia, ok _ (by rw [b1]; decide) (by rw [if_neg b0, if_pos b1])⟩, fun b1 => ⟨fun b2 => ok _ (by rw [b2]; decide) (by rw [if_neg b0, if_neg b1, if_pos b2]), fun b2 => ⟨fun b3 => ok _ (by rw [b3]; decide) (by rw [if_neg b0, if_neg b1, if_neg b2, if_pos b3]), fun b3 => ⟨fun b4 => ⟨by lia, ?_⟩, fun b4 => ⟨fun b5 => ?_, fun b5 => ⟨fun b6 => ⟨by lia, ok _ (by rw [b6]; decide) (by rw [if_neg b0, if_neg b1, if_neg b2, if_neg b3, if_neg b4, if_neg b5, if_pos b6])⟩, fun b6 => ⟨fun b7 => ok _ (by rw [b7]; decide) (by rw [if_neg b0, if_neg b1, if_neg b2, if_neg b3, if_neg b4, if_neg b5, if_neg b6]), fun b7 => cThr hC hI hB hn (cP_of hQ (if_neg (fun q => by obtain ⟨-, q1, q2⟩ := q; lia)))⟩⟩⟩⟩⟩⟩⟩⟩
  · refine free_ok hC hI.1 r1.1 r1.2 (kz (held_ok hC hI.1 r1.1 r1.2 (kz (kz ?_))))
    rw [nI_nt0 (by lia)]
    exact ok _ (by rw [b4]; decide) (by rw [if_neg b0, if_neg b1, if_neg b2, if_neg b3, if_pos b4, cnt_sold hI.1 r1.1 r1.2])
  · exact held_ok hC hI.1 r1.1 r1.2 (kz (ok _ (by rw [b5]; decide) (by rw [if_neg b0, if_neg b1, if_neg b2, if_neg b3, if_neg b4, if_pos b5, cnt_held hI.1 r1.1 r1.2])))
/-! the reference's counts -/
/-! ofHall -/
theorem rnn_no {h : Int32} : ∀ n : Nat, n < 2147483648 → (∀ x : Int32, 0 ≤ x → x < nI n → ¬ (g 125 (nt x) = 1 ∧ g 123 (nt x) = h)) → rnn g h n = -1
  | 0, _, _ => rfl
  | n + 1, hn, hh => by
    have e1 : (nI n).toInt = n := nI_toInt (by omega)
    have e2 : (nI (n + 1)).toInt = (n + 1 : Nat) := nI_toInt (by omega)
    have z0 : (0 : Int32).toInt = 0 := rfl
    unfold rnn
    rw [if_neg (hh (nI n) (by rw [z_le]; omega) (by rw [z_lt]; omega))]
    exact rnn_no n (by omega) (fun x a b => hh x a (by rw [z_lt] at b ⊢; omega))
theorem rnn_at {h y : Int32} : ∀ n : Nat, n < 2147483648 → 0 ≤ y → y < nI n → (g 125 (nt y) = 1 ∧ g 123 (nt y) = h) → (∀ x : Int32, 0 ≤ x → x < nI n → (g 125 (nt x) = 1 ∧ g 123 (nt x) = h) → x = y) → rnn g h n = y
  | 0, _, h0, h1, _, _ => by
    have : y < 0 := h1
    lia
  | n + 1, hn, h0, h1, hy, hh => by
    have e1 : (nI n).toInt = n := nI_toInt (by omega)
    have e2 : (nI (n + 1)).toInt = (n + 1 : Nat) := nI_toInt (by omega)
    have z0 : (0 : Int32).toInt = 0 := rfl
    unfold rnn
    by_cases e : g 125 (nt (nI n)) = 1 ∧ g 123 (nt (nI n)) = h
    · rw [if_pos e]
      exact hh (nI n) (by rw [z_le]; omega) (by rw [z_lt]; omega) e
    · rw [if_neg e]
      have : y ≠ nI n := fun q => e (q ▸ hy)
      have e3 : y.toInt ≠ n := fun q => this (Int32.toInt_inj.mp (q.trans e1.symm))
      exact rnn_at n (by omega) h0 (by rw [z_lt] at h1 ⊢; omega) hy (fun x a b => hh x a (by rw [z_lt] at b ⊢; omega))
theorem one_runs (hI : Iv g) {i j h : Int32} (i0 : 0 ≤ i) (i1 : i < g 321 0) (j0 : 0 ≤ j) (j1 : j < g 321 0) (hi : g 125 (nt i) = 1 ∧ g 123 (nt i) = h) (hj : g 125 (nt j) = 1 ∧ g 123 (nt j) = h) : i = j := by
  by_cases e : i = j
  · exact e
  · have a := (hI.2.2 i i0 i1).2 hi.1
    have b := (hI.2.2 j j0 j1).2 hj.1
    have r1 := en_rng hI.1 i0 i1
    have r2 := en_rng hI.1 j0 j1
    rcases i_ov hI i j i0 i1 j0 j1 e (Or.inr hi.1) (Or.inr hj.1) (hi.2.trans hj.2.symm) with q | q <;> lia
theorem running_ok {h : Int32} (hC : cC S g) (hI : Iv g) (hh : isX g 302 h) (q : Q 0 (rnn g h (nt (g 321 0))) S) : w_X7_runningIn h S Q := by
  have n3 := n321 (i_n hI)
  have L : ∀ (d : Nat) (x : Int32), 0 ≤ x → x + nI d = g 321 0 → x ≤ g 321 0 → (∀ k : Int32, 0 ≤ k → k < x → ¬ (g 125 (nt k) = 1 ∧ g 123 (nt k) = h)) → w_X7_runningIn_2 Q (d + 1) h x S := by
    intro d
    have non : (∀ k : Int32, 0 ≤ k → k < g 321 0 → ¬ (g 125 (nt k) = 1 ∧ g 123 (nt k) = h)) → Q 0 (-1) S := fun hh => by
      rw [rnn_no _ (nt_lt32 _) (by rw [nI_nt0 n3.1]; exact hh)] at q; exact q
    induction d with
    | zero =>
      intro x a b c hno
      have e : x = g 321 0 := by rw [← b]; show x = x + 0; lia
      rw [w_X7_runningIn_2]
      unfold w_size
      rw [c_12_3 hC]
      exact kz ⟨fun _ => non (e ▸ hno), fun w => by lia⟩
    | succ d ih =>
      intro x a b c hno
      rw [w_X7_runningIn_2]
      unfold w_size w_get
      rw [c_12_3 hC]
      refine kz ⟨fun w => non (fun k k1 k2 => hno k k1 (by lia)), fun w => ⟨⟨by lia, by rw [c_12_3 hC]; lia⟩, kz ?_⟩⟩
      have hx : x < g 321 0 := by lia
      obtain ⟨-, g1, g2⟩ := i_s1 hI.1 a hx
      have nx : ¬ (g 125 (nt x) = 1 ∧ g 123 (nt x) = h) → w_X7_runningIn_2 Q (d + 1) h (x + 1) S := fun q => ih (x + 1) (by lia) (by rw [nI1] at b; lia) (by lia) (fun k k1 k2 => by
          rcases i32_lt1 k2 a (by lia) with e | e
          · exact hno k k1 e
          · rw [e]; exact q)
      rw [c_52 hC a hx, c_20 hC g1 g2, c_20 hC hh.1 hh.2, c_56 hC a hx]
      unfold w_X7_runningIn_49
      refine ⟨by lia, fun a1 => ⟨fun a2 => ?_, fun a2 => nx (fun z => a2 z.1)⟩, fun a1 => nx (fun z => a1 z.2)⟩
      rw [rnn_at (y := x) _ (nt_lt32 _) a (by rw [nI_nt0 n3.1]; exact hx) ⟨a2, a1⟩ (fun k k1 k2 k3 => by rw [nI_nt0 n3.1] at k2; exact one_runs hI k1 k2 a hx k3 ⟨a2, a1⟩)] at q
      exact q
  exact ⟨nt (g 321 0) + 1, L _ 0 (by decide) (by rw [nI_nt0 n3.1]; lia) n3.1 (fun k k1 k2 => by lia)⟩
theorem cls_ofHall {h w : Int32} (hC : cC S g) (hI : Iv g) (hB : Bd n S) (hn : n < 20000) (hQ : cPost n (rOfHall g h w) S Q) : w_X7_ofHall h w S Q := by
  unfold w_X7_ofHall
  refine hallAt_ok hC (fun r1 => kz ?_) (fun r1 => cThr1 (by decide) hC hI hB hn (cP_of hQ (if_neg (fun q => r1 q.1))))
  have ok : ∀ v, inr w 0 3 → v = (if w = 0 then g 103 (nt h) * g 104 (nt h) else if w = 1 then g 105 (nt h) else if w = 2 then g 106 (nt h) else rnn g h (nt (g 321 0))) → Q 0 v S := fun v h1 h2 => by rw [h2]; exact cRet hC hB (cP_of hQ (if_pos ⟨r1, h1⟩))
  rw [c_21 hC r1.1 r1.2, c_22 hC r1.1 r1.2, c_23 hC r1.1 r1.2, c_24 hC r1.1 r1.2]
  exact ⟨fun b0 => ok _ (by rw [b0]; decide) (by rw [if_pos b0]), fun b0 => ⟨fun b1 => ok _ (by rw [b1]; decide) (by rw [if_neg b0, if_pos b1]), fun b1 => ⟨fun b2 => ok _ (by rw [b2]; decide) (by rw [if_neg b0, if_neg b1, if_pos b2]), fun b2 => ⟨fun b3 => running_ok hC hI r1 (kz (ok _ (by rw [b3]; decide) (by rw [if_neg b0, if_neg b1, if_neg b2]))), fun b3 => cThr hC hI hB hn (cP_of hQ (if_neg (fun q => by obtain ⟨-, q1, q2⟩ := q; lia)))⟩⟩⟩⟩
end A2
