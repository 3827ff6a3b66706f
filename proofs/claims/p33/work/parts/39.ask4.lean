/-! share, mustStay, audit, all -/
theorem l64 {a b : Int32} (ha : 0 ≤ a ∧ a ≤ 100) (hb : 0 ≤ b ∧ b ≤ 400000) : ((a.toInt64 * b.toInt64) / 100).toInt32 = a * b / 100 := by
  have z0 : (0 : Int32).toInt = 0 := rfl
  have z1 : (100 : Int32).toInt = 100 := rfl
  have z2 : (400000 : Int32).toInt = 400000 := rfl
  have z3 : (100 : Int64).toInt = 100 := rfl
  have a1 := z_le.mp ha.1
  have a2 := z_le.mp ha.2
  have b1 := z_le.mp hb.1
  have b2 := z_le.mp hb.2
  have c1 : 0 ≤ a.toInt * b.toInt := Int.mul_nonneg (by omega) (by omega)
  have c2 : a.toInt * b.toInt ≤ 100 * 400000 := Int.mul_le_mul (by omega) (by omega) (by omega) (by omega)
  have e1 := z_mul (x := a) (y := b) (by omega) (by omega)
  have e2 : (a.toInt64 * b.toInt64).toInt = a.toInt * b.toInt := by
    rw [Int64.toInt_mul, Int32.toInt_toInt64, Int32.toInt_toInt64, Int.bmod_eq_of_le (by omega) (by omega)]
  have e3 : ((a.toInt64 * b.toInt64) / 100).toInt = a.toInt * b.toInt / 100 := by
    rw [Int64.toInt_div, e2, z3, Int.tdiv_eq_ediv_of_nonneg c1, Int.bmod_eq_of_le (by omega) (by omega)]
  apply Int32.toInt_inj.mp
  rw [Int64.toInt_toInt32, e3, Int32.toInt_div, e1, z1, Int.tdiv_eq_ediv_of_nonneg c1]
section A4
variable {n : Nat} {g : Gm} {S : Sg} {Q : Nat → Int32 → Sg → Prop}
theorem max_ok {a b : Int32} (q : Q 0 (if a < b then b else a) S) : w_J9_max_7cf53 a b S Q := by
  unfold w_J9_max_7cf53
  exact ⟨fun h => by rw [if_pos h] at q; exact q, fun h => by rw [if_neg h] at q; exact q⟩
theorem part_rng (hI : Ia g) {f w : Int32} (hf : isX g 307 f) (hw : inr w 0 9) : 0 ≤ (if g 113 (nt f) ≤ g 111 (nt f) - w * g 112 (nt f) then g 111 (nt f) - w * g 112 (nt f) else g 113 (nt f)) ∧ (if g 113 (nt f) ≤ g 111 (nt f) - w * g 112 (nt f) then g 111 (nt f) - w * g 112 (nt f) else g 113 (nt f)) ≤ 100 := by
  obtain ⟨-, -, -, -, -, -, h1, h2, h3, h4, h5, h6, h7, h8⟩ := ia_f hI f hf.1 hf.2
  have z0 : (0 : Int32).toInt = 0 := rfl
  have z1 : (100 : Int32).toInt = 100 := rfl
  have z9 : (9 : Int32).toInt = 9 := rfl
  have w1 := z_le.mp hw.1
  have w2 := z_le.mp hw.2
  have w3 := z_le.mp h3
  have w4 := z_le.mp h4
  have c1 : 0 ≤ w.toInt * (g 112 (nt f)).toInt := Int.mul_nonneg (by omega) (by omega)
  have c2 : w.toInt * (g 112 (nt f)).toInt ≤ 9 * 100 := Int.mul_le_mul (by omega) (by omega) (by omega) (by omega)
  have e1 := z_mul (x := w) (y := g 112 (nt f)) (by omega) (by omega)
  have p1 : 0 ≤ w * g 112 (nt f) := by rw [z_le, e1]; omega
  have p2 : w * g 112 (nt f) ≤ 900 := by rw [z_le, e1]; have : (900 : Int32).toInt = 900 := rfl; omega
  revert p1 p2
  generalize w * g 112 (nt f) = P
  intro p1 p2
  split <;> constructor <;> lia
theorem owners_ok {f w x : Int32} (hC : cC S g) (hI : Ia g) (hf : isX g 307 f) (hx : 0 ≤ x ∧ x ≤ 399600) (q : Q 0 (own g f w x) S) : w_X0_ownersOf f x w S Q := by
  obtain ⟨-, -, -, -, -, -, h1, h2, h3, h4, h5, h6, h7, h8⟩ := ia_f hI f hf.1 hf.2
  unfold w_X0_ownersOf
  rw [c_34 hC hf.1 hf.2, c_35 hC hf.1 hf.2, c_36 hC hf.1 hf.2]
  refine max_ok (kz ?_)
  rw [c_37 hC hf.1 hf.2]
  refine max_ok (kz ?_)
  rw [c_36 hC hf.1 hf.2]
  refine max_ok (kz ?_)
  unfold own at q
  dsimp only at q
  have e1 : (if g 111 (nt f) - w * g 112 (nt f) < g 113 (nt f) then g 113 (nt f) else g 111 (nt f) - w * g 112 (nt f)) = (if g 113 (nt f) ≤ g 111 (nt f) - w * g 112 (nt f) then g 111 (nt f) - w * g 112 (nt f) else g 113 (nt f)) := by
    split
    · rw [if_neg (by lia)]
    · rw [if_pos (by lia)]
  have e2 : (if x - g 114 (nt f) < 0 then 0 else x - g 114 (nt f)) = (if x ≤ g 114 (nt f) then 0 else x - g 114 (nt f)) := by
    split
    · rw [if_pos (by lia)]
    · split
      · lia
      · rfl
  rw [e1, e2]
  have e3 : ∀ A B : Int32, (if A < B then B else A) = (if A ≤ B then B else A) := fun A B => by
    split
    · rw [if_pos (by lia)]
    · split
      · lia
      · rfl
  rw [e3]
  exact q
theorem cls_share {f w : Int32} (hC : cC S g) (hI : Iv g) (hB : Bd n S) (hn : n < 20000) (hQ : cPost n (rShare g f w) S Q) : w_X7_share f w S Q := by
  unfold w_X7_share
  refine filmAt_ok hC (fun r1 => kz ?_) (fun r1 => cThr1 (by decide) hC hI hB hn (cP_of hQ (if_neg r1)))
  refine needWithin_ok (fun r2 => kz ?_) (fun r2 => cThr1 (by decide) hC hI hB hn (cP_of hQ (by unfold rShare; rw [if_pos r1, if_neg r2])))
  exact taken2_ok hC hI.1 r1 (kz (owners_ok hC hI.1 r1 (tkn_rng hI.1) (kz (cRet hC hB (cP_of hQ (by unfold rShare; rw [if_pos r1, if_pos r2]))))))
theorem cls_mustStay {f w : Int32} (hC : cC S g) (hI : Iv g) (hB : Bd n S) (hn : n < 20000) (hQ : cPost n (rStay g f w) S Q) : w_X7_mustStay f w S Q := by
  unfold w_X7_mustStay
  refine filmAt_ok hC (fun r1 => kz ?_) (fun r1 => cThr1 (by decide) hC hI hB hn (cP_of hQ (if_neg r1)))
  refine needWithin_ok (fun r2 => kz ?_) (fun r2 => cThr1 (by decide) hC hI hB hn (cP_of hQ (by unfold rStay; rw [if_pos r1, if_neg r2])))
  have ok : ∀ v, v = (if opn g f ≠ -1 ∧ g 115 (nt f) ≤ tkn g f w then 1 else 0) → Q 0 v S := fun v e => by
    rw [e]; exact cRet hC hB (cP_of hQ (by unfold rStay; rw [if_pos r1, if_pos r2]))
  refine opening_ok hC hI.1 r1 (kz ⟨fun o => ok _ (by rw [if_neg (fun z => z.1 o)]), fun o => taken2_ok hC hI.1 r1 (kz ?_)⟩)
  rw [c_38 hC r1.1 r1.2]
  exact ⟨fun z => ok _ (by rw [if_neg (fun y => by have := y.2; lia)]), fun z => ok _ (by rw [if_pos ⟨o, by lia⟩])⟩
/-! audit, all -/
theorem sm_from {a : Int32} (h0 : 0 ≤ a) {f : Int32 → Int32} : sm (fun t => if a ≤ t then f t else 0) (nt a) = 0 :=
  sm_zero _ (nt_lt32 _) (fun x _ h => by rw [nI_nt0 h0] at h; rw [if_neg (by lia)])
theorem paid_ok {a b : Int32} (hC : cC S g) (hI : I_n g) (a0 : 0 ≤ a) (a1 : a ≤ b + 1) (b1 : b < g 336 0) (b0 : -1 ≤ b) (q : Q 0 (sm (fun t => if a ≤ t then g 140 (nt t) else 0) (nt (b + 1))) S) : w_X7_paidFor a b S Q := by
  have n3 := n336 hI
  unfold w_X7_paidFor
  refine max_ok (kz ?_)
  rw [if_neg (by lia)]
  have L : ∀ (d : Nat) (x : Int32), a ≤ x → x + nI d = b + 1 → x ≤ b + 1 → w_X7_paidFor_9 Q (d + 1) b (sm (fun t => if a ≤ t then g 140 (nt t) else 0) (nt x)) x S := by
    intro d
    induction d with
    | zero =>
      intro x a9 b9 c
      have e : x = b + 1 := by rw [← b9]; show x = x + 0; lia
      rw [w_X7_paidFor_9, e]
      exact ⟨fun _ => q, fun w9 => by lia⟩
    | succ d ih =>
      intro x a9 b9 c
      rw [w_X7_paidFor_9]
      refine ⟨fun w9 => ?_, fun w9 => ?_⟩
      · rw [show x = b + 1 by lia]; exact q
      unfold w_size w_get
      rw [c_12_5 hC]
      refine kz ⟨fun w9 => by lia, fun w9 => ⟨⟨by lia, by rw [c_12_5 hC]; lia⟩, kz ?_⟩⟩
      rw [c_73 hC (by lia) (by lia)]
      rintro v rfl
      have st := sm_succ (f := fun t => if a ≤ t then g 140 (nt t) else 0) (x := x) (by lia) (by lia)
      rw [if_pos a9] at st
      rw [← st]
      exact ih (x + 1) (by lia) (by rw [nI1] at b9; lia) (by lia)
  have h1 : 0 ≤ b + 1 - a := by lia
  refine ⟨nt (b + 1 - a) + 1, ?_⟩
  have := L (nt (b + 1 - a)) a (by lia) (by rw [nI_nt0 h1]; lia) (by lia)
  rw [sm_from a0] at this
  exact this
theorem cls_audit {a b : Int32} (hC : cC S g) (hI : Iv g) (hB : Bd n S) (hn : n < 20000) (hQ : cPost n (rAudit g a b) S Q) : w_X7_audit a b S Q := by
  have n3 := n336 (i_n hI)
  unfold w_X7_audit
  refine needTicket_ok hC (fun r1 => kz ?_) (fun r1 => cThr1 (by decide) hC hI hB hn (cP_of hQ (if_neg (fun q => r1 q.1))))
  refine needTicket_ok hC (fun r2 => kz ?_) (fun r2 => cThr1 (by decide) hC hI hB hn (cP_of hQ (if_neg (fun q => r2 q.2))))
  refine ⟨fun z => ?_, fun z => cThr hC hI hB hn (cP_of hQ (by unfold rAudit; rw [if_pos ⟨r1, r2⟩, if_pos (by lia)]))⟩
  have q1 := r1.1
  have q2 := r2.2
  exact paid_ok hC (i_n hI) q1 (by lia) q2 (by lia) (kz (cRet hC hB (cP_of hQ (by unfold rAudit; rw [if_pos ⟨r1, r2⟩, if_neg (by lia)]))))
theorem openHolds_ok (hC : cC S g) (hI : I_n g) (q : Q 0 (sm (fun k => if g 135 (nt k) = 0 then 1 else 0) (nt (g 331 0))) S) : w_X7_countOpenHolds S Q := by
  have n3 := n331 hI
  have L : ∀ (d : Nat) (x : Int32), 0 ≤ x → x + nI d = g 331 0 → x ≤ g 331 0 → w_X7_countOpenHolds_4 Q (d + 1) (sm (fun k => if g 135 (nt k) = 0 then 1 else 0) (nt x)) x S := by
    intro d
    induction d with
    | zero =>
      intro x a b c
      have e : x = g 331 0 := by rw [← b]; show x = x + 0; lia
      rw [w_X7_countOpenHolds_4]
      unfold w_size
      rw [c_12_4 hC, e]
      exact kz ⟨fun _ => q, fun w9 => by lia⟩
    | succ d ih =>
      intro x a b c
      rw [w_X7_countOpenHolds_4]
      unfold w_size w_get
      rw [c_12_4 hC]
      refine kz ⟨fun w9 => ?_, fun w9 => ⟨⟨by lia, by rw [c_12_4 hC]; lia⟩, kz ?_⟩⟩
      · rw [show x = g 331 0 by lia]; exact q
      have hx : x < g 331 0 := by lia
      have st := sm_succ (f := fun k => if g 135 (nt k) = 0 then 1 else 0) a (by lia)
      have nx : ∀ v, v = sm (fun k => if g 135 (nt k) = 0 then 1 else 0) (nt x) + (if g 135 (nt x) = 0 then 1 else 0) → w_X7_countOpenHolds_4 Q (d + 1) v (x + 1) S := fun v e => by
        rw [e, ← st]; exact ih (x + 1) (by lia) (by rw [nI1] at b; lia) (by lia)
      unfold w_X7_countOpenHolds_35
      rw [c_63 hC a hx]
      exact ⟨fun z => nx _ (by rw [if_pos z]), fun z => nx _ (by rw [if_neg z]; lia)⟩
  exact ⟨nt (g 331 0) + 1, L _ 0 (by decide) (by rw [nI_nt0 n3.1]; lia) n3.1⟩
theorem cls_all {w : Int32} (hC : cC S g) (hI : Iv g) (hB : Bd n S) (hn : n < 20000) (hQ : cPost n (rAll g w) S Q) : w_X7_all w S Q := by
  have n3 := n336 (i_n hI)
  have ok : ∀ v, inr w 0 4 → v = (if w = 0 then g 300 0 else if w = 1 then g 321 0 else if w = 2 then g 336 0 else if w = 3 then sm (fun k => if g 135 (nt k) = 0 then 1 else 0) (nt (g 331 0)) else sm (fun t => g 140 (nt t)) (nt (g 336 0))) → Q 0 v S := fun v h1 h2 => by rw [h2]; exact cRet hC hB (cP_of hQ (if_pos h1))
  unfold w_X7_all w_size
  rw [c_6_0 hC, c_12_3 hC, c_12_5 hC]
  refine ⟨fun b0 => ok _ (by rw [b0]; decide) (by rw [if_pos b0]), fun b0 => ⟨fun b1 => kz (ok _ (by rw [b1]; decide) (by rw [if_neg b0, if_pos b1])), fun b1 => ⟨fun b2 => kz (ok _ (by rw [b2]; decide) (by rw [if_neg b0, if_neg b1, if_pos b2])), fun b2 => ⟨fun b3 => openHolds_ok hC (i_n hI) (kz (ok _ (by rw [b3]; decide) (by rw [if_neg b0, if_neg b1, if_neg b2, if_pos b3]))), fun b3 => ⟨fun b4 => kz (paid_ok hC (i_n hI) (by decide) (by lia) (by lia) (by lia) (kz (ok _ (by rw [b4]; decide) ?_))), fun b4 => cThr hC hI hB hn (cP_of hQ (if_neg (fun q => by obtain ⟨q1, q2⟩ := q; lia)))⟩⟩⟩⟩⟩
  rw [if_neg b0, if_neg b1, if_neg b2, if_neg b3, show g 336 0 - 1 + 1 = g 336 0 by lia]
  exact sm_congr (nt_lt32 _) (fun x h _ => by rw [if_pos h])
end A4
