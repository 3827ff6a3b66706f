/-! whether a show fits: the class's loops and the reference's -/
theorem nI1 {d : Nat} : nI (d + 1) = nI d + 1 := nI_succ d
theorem i_s1 {g : Gm} (hI : Ia g) {s : Int32} (h0 : 0 ≤ s) (h1 : s < g 321 0) : isX g 307 (g 122 (nt s)) ∧ isX g 302 (g 123 (nt s)) := by
  obtain ⟨a, b, c, d, -⟩ := ia_s hI s h0 h1
  exact ⟨⟨a, b⟩, c, d⟩
theorem toCome_ok {g : Gm} {S : Sg} {s : Int32} {Q : Nat → Int32 → Sg → Prop} (hC : cC S g) (h0 : 0 ≤ s) (h1 : s < g 321 0) (q1 : on g s → Q 0 1 S) (q0 : ¬ on g s → Q 0 0 S) : w_X5_isToCome s S Q := by
  unfold w_X5_isToCome
  rw [c_56 hC h0 h1]
  exact ⟨fun a => q1 (Or.inl a), fun a => ⟨fun b => q1 (Or.inr b), fun b => q0 (fun q => q.elim a b)⟩⟩
theorem end_ok {g : Gm} {S : Sg} {s : Int32} {Q : Nat → Int32 → Sg → Prop} (hC : cC S g) (hI : Ia g) (h0 : 0 ≤ s) (h1 : s < g 321 0) (q : Q 0 (en g s) S) : w_X5_end s S Q := by
  unfold w_X5_end
  obtain ⟨⟨f1, f2⟩, -⟩ := i_s1 hI h0 h1
  rw [c_51 hC h0 h1, c_53 hC h0 h1, c_31 hC f1 f2]
  exact ⟨by lia, q⟩
section R1
variable {g : Gm} {S : Sg} {f h t : Int32} {Q : Nat → Int32 → Sg → Prop}
theorem isOpen_ok (hC : cC S g) (hI : Ia g) (hf : isX g 307 f) (hh : isX g 302 h) (q1 : Opn g f h t → Q 0 1 S) (q0 : ¬ Opn g f h t → Q 0 0 S) : w_X7_isOpen f h t S Q := by
  have L : ∀ (d : Nat) (x : Int32), 0 ≤ x → x + nI d = g 316 0 → x ≤ g 316 0 → (∀ k : Int32, 0 ≤ k → k < x → ¬ (g 117 (nt k) = f ∧ g 118 (nt k) = h ∧ g 119 (nt k) ≤ t ∧ t + g 108 (nt f) ≤ g 120 (nt k))) → w_X7_isOpen_3 Q (d + 1) f h t x S := by
    intro d
    obtain ⟨-, -, -, -, -, -, -, -, n1, n2, -⟩ := ia_n hI
    induction d with
    | zero =>
      intro x h0 h1 h2 hno
      have e : x = g 316 0 := by rw [← h1]; show x = x + 0; lia
      rw [w_X7_isOpen_3]
      unfold w_size
      rw [c_12_2 hC]
      refine kz ⟨fun a => q0 ?_, fun a => by lia⟩
      rintro ⟨k, k1, k2, k3⟩
      exact hno k k1 (by rw [e]; exact k2) k3
    | succ d ih =>
      intro x h0 h1 h2 hno
      rw [w_X7_isOpen_3]
      unfold w_size w_get
      rw [c_12_2 hC]
      refine kz ⟨fun a => q0 ?_, fun a => ⟨⟨by lia, by rw [c_12_2 hC]; lia⟩, kz ?_⟩⟩
      · rintro ⟨k, k1, k2, k3⟩
        exact hno k k1 (by lia) k3
      · have nx : ¬ (g 117 (nt x) = f ∧ g 118 (nt x) = h ∧ g 119 (nt x) ≤ t ∧ t + g 108 (nt f) ≤ g 120 (nt x)) → w_X7_isOpen_3 Q (d + 1) f h t (x + 1) S := fun q => ih (x + 1) (by lia) (by rw [nI1] at h1; lia) (by lia) (fun k k1 k2 => by
          rcases i32_lt1 k2 h0 (by lia) with e | e
          · exact hno k k1 e
          · rw [e]; exact q)
        have hx : x < g 316 0 := by lia
        rw [c_40 hC h0 hx, c_41 hC h0 hx, c_42 hC h0 hx, c_43 hC h0 hx, c_30 hC hf.1 hf.2, c_20 hC hh.1 hh.2, c_31 hC hf.1 hf.2]
        unfold w_X7_isOpen_78
        exact ⟨fun a1 => ⟨fun a2 => ⟨fun a3 => nx (fun q => by have := q.2.2.1; lia), fun a3 => ⟨fun a4 => nx (fun q => by have := q.2.2.2; lia), fun a4 => q1 ⟨x, h0, hx, a1, a2, by lia, by lia⟩⟩⟩, fun a2 => nx (fun q => a2 q.2.1)⟩, fun a1 => nx (fun q => a1 q.1)⟩
  refine ⟨nt (g 316 0) + 1, L _ 0 (by decide) ?_ ?_ (fun k k1 k2 => by lia)⟩
  · obtain ⟨-, -, -, -, -, -, -, -, n1, n2, -⟩ := ia_n hI
    rw [nI_nt0 n1]; lia
  · obtain ⟨-, -, -, -, -, -, -, -, n1, n2, -⟩ := ia_n hI
    exact n1
theorem taken_ok (hC : cC S g) (hI : Ia g) (hf : isX g 307 f) (hh : isX g 302 h) (q1 : Mts g f h t → Q 0 1 S) (q0 : ¬ Mts g f h t → Q 0 0 S) : w_X7_isHallTaken f h t S Q := by
  have n3 := n321 (ia_n hI)
  have L : ∀ (d : Nat) (x : Int32), 0 ≤ x → x + nI d = g 321 0 → x ≤ g 321 0 → (∀ k : Int32, 0 ≤ k → k < x → ¬ mtS g f h t k) → w_X7_isHallTaken_11 Q (d + 1) h t (t + g 108 (nt f)) x S := by
    intro d
    induction d with
    | zero =>
      intro x h0 h1 h2 hno
      have e : x = g 321 0 := by rw [← h1]; show x = x + 0; lia
      rw [w_X7_isHallTaken_11]
      unfold w_size
      rw [c_12_3 hC]
      refine kz ⟨fun a => q0 ?_, fun a => by lia⟩
      rintro ⟨k, k1, k2, k3⟩
      exact hno k k1 (by rw [e]; exact k2) k3
    | succ d ih =>
      intro x h0 h1 h2 hno
      rw [w_X7_isHallTaken_11]
      unfold w_size w_get
      rw [c_12_3 hC]
      refine kz ⟨fun a => q0 ?_, fun a => ⟨⟨by lia, by rw [c_12_3 hC]; lia⟩, kz ?_⟩⟩
      · rintro ⟨k, k1, k2, k3⟩
        exact hno k k1 (by lia) k3
      · have hx : x < g 321 0 := by lia
        have nx : ¬ mtS g f h t x → w_X7_isHallTaken_11 Q (d + 1) h t (t + g 108 (nt f)) (x + 1) S := fun q => ih (x + 1) (by lia) (by rw [nI1] at h1; lia) (by lia) (fun k k1 k2 => by
          rcases i32_lt1 k2 h0 (by lia) with e | e
          · exact hno k k1 e
          · rw [e]; exact q)
        obtain ⟨-, g1, g2⟩ := i_s1 hI h0 hx
        rw [c_52 hC h0 hx, c_20 hC g1 g2, c_20 hC hh.1 hh.2]
        unfold w_X7_isHallTaken_87
        refine ⟨by lia, fun a1 => toCome_ok hC h0 hx (fun a2 => kb1 (end_ok hC hI h0 hx (kz ⟨fun a3 => nx (fun q => by have := q.2.2.1; lia), fun a3 => ?_⟩))) (fun a2 => kb0 (nx (fun q => a2 q.1))), fun a1 => nx (fun q => a1 q.2.1)⟩
        rw [c_53 hC h0 hx]
        exact ⟨fun a4 => nx (fun q => by have := q.2.2.2; lia), fun a4 => q1 ⟨x, h0, hx, a2, a1, by lia, by lia⟩⟩
  unfold w_X7_isHallTaken
  rw [c_31 hC hf.1 hf.2]
  rintro v rfl
  exact ⟨nt (g 321 0) + 1, L _ 0 (by decide) (by rw [nI_nt0 n3.1]; lia) n3.1 (fun k k1 k2 => by lia)⟩
theorem close_ok (hC : cC S g) (hI : Ia g) (hh : isX g 302 h) (ht : 0 ≤ t ∧ t ≤ 100000) (q1 : Nrs g h t → Q 0 1 S) (q0 : ¬ Nrs g h t → Q 0 0 S) : w_X7_isTooCloseToOthers h t S Q := by
  have n3 := n321 (ia_n hI)
  have L : ∀ (d : Nat) (x : Int32), 0 ≤ x → x + nI d = g 321 0 → x ≤ g 321 0 → (∀ k : Int32, 0 ≤ k → k < x → ¬ nrS g h t k) → w_X7_isTooCloseToOthers_2 Q (d + 1) h t x S := by
    intro d
    induction d with
    | zero =>
      intro x h0 h1 h2 hno
      have e : x = g 321 0 := by rw [← h1]; show x = x + 0; lia
      rw [w_X7_isTooCloseToOthers_2]
      unfold w_size
      rw [c_12_3 hC]
      refine kz ⟨fun a => q0 ?_, fun a => by lia⟩
      rintro ⟨k, k1, k2, k3⟩
      exact hno k k1 (by rw [e]; exact k2) k3
    | succ d ih =>
      intro x h0 h1 h2 hno
      rw [w_X7_isTooCloseToOthers_2]
      unfold w_size w_get
      rw [c_12_3 hC]
      refine kz ⟨fun a => q0 ?_, fun a => ⟨⟨by lia, by rw [c_12_3 hC]; lia⟩, kz ?_⟩⟩
      · rintro ⟨k, k1, k2, k3⟩
        exact hno k k1 (by lia) k3
      · have hx : x < g 321 0 := by lia
        have nx : ¬ nrS g h t x → w_X7_isTooCloseToOthers_2 Q (d + 1) h t (x + 1) S := fun q => ih (x + 1) (by lia) (by rw [nI1] at h1; lia) (by lia) (fun k k1 k2 => by
          rcases i32_lt1 k2 h0 (by lia) with e | e
          · exact hno k k1 e
          · rw [e]; exact q)
        obtain ⟨-, g1, g2⟩ := i_s1 hI h0 hx
        obtain ⟨-, -, -, -, s1, s2, -⟩ := ia_s hI x h0 hx
        rw [c_52 hC h0 hx, c_20 hC g1 g2, c_20 hC hh.1 hh.2]
        unfold w_X7_isTooCloseToOthers_68 w_J9_abs_0f7a4
        refine ⟨by lia, fun a1 => nx (fun q => q.2.1 a1), fun a1 => toCome_ok hC h0 hx (fun a2 => kb1 ?_) (fun a2 => kb0 (nx (fun q => a2 q.1)))⟩
        rw [c_53 hC h0 hx]
        dsimp only
        rw [c_7_0 hC]
        refine ⟨fun b => kz ⟨fun a3 => nx (fun q => ?_), fun a3 => q1 ⟨x, h0, hx, a2, a1, ?_⟩⟩, fun b => kz ⟨fun a3 => nx (fun q => ?_), fun a3 => q1 ⟨x, h0, hx, a2, a1, ?_⟩⟩⟩
        · have := q.2.2
          split at this <;> lia
        · split <;> lia
        · have := q.2.2
          split at this <;> lia
        · split <;> lia
  exact ⟨nt (g 321 0) + 1, L _ 0 (by decide) (by rw [nI_nt0 n3.1]; lia) n3.1 (fun k k1 k2 => by lia)⟩
theorem brn_step {x : Int32} (h0 : 0 ≤ x) (h1 : x < 2147483647) : brn g f h (nt (x + 1)) = brn g f h (nt x) + (if on g x ∧ g 123 (nt x) = h then g 108 (nt (g 122 (nt x))) else 0) := by
  unfold brn
  rw [sm_succ h0 h1]
  lia
theorem brn_0 : brn g f h 0 = g 105 (nt h) + g 108 (nt f) := by
  unfold brn
  show _ + 0 = _
  lia
theorem lamp_ok (hC : cC S g) (hI : Ia g) (hf : isX g 307 f) (hh : isX g 302 h) (q1 : ¬ brn g f h (nt (g 321 0)) ≤ g 106 (nt h) → Q 0 1 S) (q0 : brn g f h (nt (g 321 0)) ≤ g 106 (nt h) → Q 0 0 S) : w_X7_isLampTooOld f h S Q := by
  have n3 := n321 (ia_n hI)
  have L : ∀ (d : Nat) (x : Int32), 0 ≤ x → x + nI d = g 321 0 → x ≤ g 321 0 → w_X7_isLampTooOld_13 Q (d + 1) h (brn g f h (nt x)) x S := by
    intro d
    induction d with
    | zero =>
      intro x h0 h1 h2
      have e : x = g 321 0 := by rw [← h1]; show x = x + 0; lia
      rw [w_X7_isLampTooOld_13]
      unfold w_size
      dsimp only
      rw [c_12_3 hC, c_24 hC hh.1 hh.2, e]
      exact kz ⟨fun a => ⟨fun b => q0 b, fun b => q1 b⟩, fun a => by lia⟩
    | succ d ih =>
      intro x h0 h1 h2
      rw [w_X7_isLampTooOld_13]
      unfold w_size w_get
      dsimp only
      rw [c_12_3 hC, c_24 hC hh.1 hh.2]
      refine kz ⟨fun a => ?_, fun a => ⟨⟨by lia, by lia⟩, kz ?_⟩⟩
      · have e : x = g 321 0 := by lia
        rw [e]
        exact ⟨fun b => q0 b, fun b => q1 b⟩
      · have hx : x < g 321 0 := by lia
        have nx : ∀ v, v = brn g f h (nt (x + 1)) → w_X7_isLampTooOld_13 Q (d + 1) h v (x + 1) S := fun v e => by
          rw [e]
          exact ih (x + 1) (by lia) (by rw [nI1] at h1; lia) (by lia)
        have st := brn_step (g := g) (f := f) (h := h) h0 (x := x) (by lia)
        obtain ⟨⟨f1, f2⟩, g1, g2⟩ := i_s1 hI h0 hx
        rw [c_52 hC h0 hx, c_20 hC g1 g2, c_20 hC hh.1 hh.2]
        unfold w_X7_isLampTooOld_73
        refine ⟨by lia, fun a1 => toCome_ok hC h0 hx (fun a2 => kb1 ?_) (fun a2 => kb0 (nx _ ?_)), fun a1 => nx _ ?_⟩
        · rw [c_51 hC h0 hx, c_31 hC f1 f2]
          refine ⟨by lia, ?_⟩
          rintro v rfl
          refine nx _ ?_
          rw [st, if_pos ⟨a2, a1⟩]
        · rw [st, if_neg (fun q => a2 q.1)]; lia
        · rw [st, if_neg (fun q => a1 q.2)]; lia
  unfold w_X7_isLampTooOld
  rw [c_23 hC hh.1 hh.2, c_31 hC hf.1 hf.2]
  rintro v rfl
  rw [← brn_0]
  exact ⟨nt (g 321 0) + 1, L _ 0 (by decide) (by rw [nI_nt0 n3.1]; lia) n3.1⟩
theorem against_ok (hC : cC S g) (hI : Ia g) (hf : isX g 307 f) (hh : isX g 302 h) (ht : 0 ≤ t ∧ t ≤ 100000) (q : Q 0 (rsn g f h t) S) : w_X7_reasonAgainst f h t S Q := by
  unfold w_X7_reasonAgainst
  refine isOpen_ok hC hI hf hh (fun a1 => kb1 ?_) (fun a1 => kb0 (by rw [rsn1 a1] at q; exact q))
  refine taken_ok hC hI hf hh (fun a2 => kb1 (by rw [rsn2 a1 a2] at q; exact q)) (fun a2 => kb0 ?_)
  refine close_ok hC hI hh ht (fun a3 => kb1 (by rw [rsn3 a1 a2 a3] at q; exact q)) (fun a3 => kb0 ?_)
  exact lamp_ok hC hI hf hh (fun a4 => kb1 (by rw [rsn4 a1 a2 a3 a4] at q; exact q)) (fun a4 => kb0 (by rw [rsn0 a1 a2 a3 a4] at q; exact q))
end R1
