/-! group: both sides -/
section GP
variable {n : Nat} {g : Gm} {S S0 : Sg} {Q : Nat → Int32 → Sg → Prop}
theorem row_rng {s row x many : Int32} (hI : Ia g) (h0 : 0 ≤ s) (h1 : s < g 321 0) (r0 : 0 ≤ row) (r1 : row < g 103 (nt (g 123 (nt s)))) (x0 : 0 ≤ x) (x1 : x ≤ 8) (m0 : 1 ≤ many) (m1 : many ≤ 8) (hw : x + many ≤ g 104 (nt (g 123 (nt s)))) : 0 ≤ g 104 (nt (g 123 (nt s))) * row + x ∧ g 104 (nt (g 123 (nt s))) * row + x + many ≤ wd g s ∧ g 104 (nt (g 123 (nt s))) * row + x ≤ 48 := by
  have w := wd_le (ia_h hI) (ia_s hI) h0 h1
  have a := pla_rng hI (show isP g s row x from ⟨⟨h0, h1⟩, r0, r1, x0, by lia⟩)
  have b := pla_rng hI (show isP g s row (x + many - 1) from ⟨⟨h0, h1⟩, r0, r1, by lia, by lia⟩)
  unfold pla at a b
  exact ⟨a.1, by lia, by lia⟩
theorem areFree_ok {s p many : Int32} (hC : cC S g) (hI : Ia g) (h0 : 0 ≤ s) (h1 : s < g 321 0) (p0 : 0 ≤ p) (m0 : 1 ≤ many) (m1 : many ≤ 8) (hw : p + many ≤ wd g s) (p2 : p ≤ 48) (q1 : allF g s p many → Q 0 1 S) (q0 : ¬ allF g s p many → Q 0 0 S) : w_X5_areFree s p many S Q := by
  have w := wd_le (ia_h hI) (ia_s hI) h0 h1
  have L : ∀ (d : Nat) (x : Int32), p ≤ x → x + nI d = p + many → x ≤ p + many → (∀ k : Int32, p ≤ k → k < x → fre g s k) → w_X5_areFree_2 Q (d + 1) s p many x S := by
    intro d
    induction d with
    | zero =>
      intro x a b c hh
      have e : x = p + many := by rw [← b]; show x = x + 0; lia
      rw [w_X5_areFree_2]
      exact ⟨fun _ => q1 (fun k k0 k1 => hh k k0 (by rw [e]; exact k1)), fun z => by lia⟩
    | succ d ih =>
      intro x a b c hh
      rw [w_X5_areFree_2, c_54 hC h0 h1, c_58 hC h0 h1, nI_nt0 (by lia)]
      refine ⟨fun z => q1 (fun k k0 k1 => hh k k0 (by lia)), fun z => ⟨by lia, fun y => by lia, fun y => ⟨by lia, vp_of2 (by lia) (by lia), ?_⟩⟩⟩
      have hx : x < wd g s := by lia
      rw [c_pl hC h0 h1 (by lia) hx]
      obtain ⟨e1, -, -⟩ := plv_cases hI h0 h1 (show 0 ≤ x by lia) (show x < 48 by lia)
      refine ⟨fun u => ih (x + 1) (by lia) (by rw [nI1] at b; lia) (by lia) (fun k k0 k1 => ?_), fun u => q0 (fun y9 => u (e1.mpr (y9 x a (by lia))))⟩
      rcases i32_lt1 k1 (by lia) (by lia) with e | e
      · exact hh k k0 e
      · rw [e]; exact e1.mp u
  have hm : 0 ≤ many := by lia
  exact ⟨nt many + 1, L _ p (by lia) (by rw [nI_nt0 hm]) (by lia) (fun k k0 k1 => by lia)⟩
theorem bst_step {s many row x : Int32} (h0 : 0 ≤ x) (h1 : x < 2147483647) : (allF g s (g 104 (nt (g 123 (nt s))) * row + x) many ∧ ((bst g s many row (nt x)).1 = -1 ∨ offS g s many x < (bst g s many row (nt x)).2) → bst g s many row (nt (x + 1)) = (x, offS g s many x)) ∧ (¬ (allF g s (g 104 (nt (g 123 (nt s))) * row + x) many ∧ ((bst g s many row (nt x)).1 = -1 ∨ offS g s many x < (bst g s many row (nt x)).2)) → bst g s many row (nt (x + 1)) = bst g s many row (nt x)) := by
  have e : bst g s many row (nt x + 1) = (by classical exact (if allF g s (g 104 (nt (g 123 (nt s))) * row + nI (nt x)) many ∧ ((bst g s many row (nt x)).1 = -1 ∨ offS g s many (nI (nt x)) < (bst g s many row (nt x)).2) then (nI (nt x), offS g s many (nI (nt x))) else bst g s many row (nt x))) := rfl
  rw [ntS h0 h1, e, nI_nt0 h0]
  exact ⟨fun h => if_pos h, fun h => if_neg h⟩
theorem bst_rng {s many row : Int32} : ∀ n : Nat, n < 1000 → (bst g s many row n).1 = -1 ∨ (0 ≤ (bst g s many row n).1 ∧ (bst g s many row n).1 < nI n)
  | 0, _ => Or.inl rfl
  | n + 1, hn => by
    have e1 : (nI n).toInt = n := nI_toInt (by omega)
    have e2 : (nI (n + 1)).toInt = (n + 1 : Nat) := nI_toInt (by omega)
    have z0 : (0 : Int32).toInt = 0 := rfl
    unfold bst
    split
    · exact Or.inr ⟨by rw [z_le]; show (0 : Int32).toInt ≤ (nI n).toInt; omega, by rw [z_lt]; show (nI n).toInt < _; omega⟩
    · rcases bst_rng n (by omega) with h | h
      · exact Or.inl h
      · exact Or.inr ⟨h.1, by have h2 := h.2; rw [z_lt] at h2 ⊢; omega⟩
theorem best_ok {s many row : Int32} (hC : cC S g) (hI : Ia g) (h0 : 0 ≤ s) (h1 : s < g 321 0) (r0 : 0 ≤ row) (r1 : row < g 103 (nt (g 123 (nt s)))) (m0 : 2 ≤ many) (m1 : many ≤ 8) (q : Q 0 (bst g s many row (nps g s many)).1 S) : w_X5_bestInRow s row many S Q := by
  obtain ⟨-, g1, g2⟩ := i_s1 hI h0 h1
  obtain ⟨a1, a2, a3, a4⟩ := ia_h hI _ g1 g2
  have L : ∀ (d : Nat) (x : Int32), 0 ≤ x → x + nI d = 9 → x ≤ 9 → (x = 0 ∨ x + many ≤ g 104 (nt (g 123 (nt s))) + 1) → w_X5_bestInRow_8 Q (d + 1) s row many (bst g s many row (nt x)).1 (bst g s many row (nt x)).2 x S := by
    intro d
    have stop : ∀ x : Int32, 0 ≤ x → (x = 0 ∨ x + many ≤ g 104 (nt (g 123 (nt s))) + 1) → g 104 (nt (g 123 (nt s))) < x + many → x ≤ 9 → Q 0 (bst g s many row (nt x)).1 S := fun x x0 xc xw x9 => by
      have e : nps g s many = nt x := by
        unfold nps
        by_cases z : x = 0
        · have : g 104 (nt (g 123 (nt s))) + 1 - many ≤ 0 := by lia
          rw [z]
          exact Nat.le_antisymm (nt_le (n := 0) (by decide) this) (Nat.zero_le _)
        · rw [show g 104 (nt (g 123 (nt s))) + 1 - many = x by lia]
      rw [e] at q; exact q
    induction d with
    | zero =>
      intro x x0 x1 x2 xc
      have e : x = 9 := by rw [← x1]; show x = x + 0; lia
      rw [w_X5_bestInRow_8, c_52 hC h0 h1, c_22 hC g1 g2]
      exact ⟨by lia, fun z => stop x x0 xc z x2, fun z => by lia⟩
    | succ d ih =>
      intro x x0 x1 x2 xc
      rw [w_X5_bestInRow_8, c_52 hC h0 h1, c_22 hC g1 g2]
      refine ⟨by lia, fun z => stop x x0 xc z x2, fun z => ⟨by lia, ?_⟩⟩
      have hr := row_rng hI h0 h1 r0 r1 x0 (show x ≤ 8 by lia) (show 1 ≤ many by lia) m1 (show x + many ≤ g 104 (nt (g 123 (nt s))) by lia)
      obtain ⟨st1, st2⟩ := bst_step (g := g) (s := s) (many := many) (row := row) x0 (show x < 2147483647 by lia)
      have nx : ∀ b l, (b, l) = bst g s many row (nt (x + 1)) → w_X5_bestInRow_8 Q (d + 1) s row many b l (x + 1) S := fun b l e => by
        have e1 : b = (bst g s many row (nt (x + 1))).1 := by rw [← e]
        have e2 : l = (bst g s many row (nt (x + 1))).2 := by rw [← e]
        rw [e1, e2]
        exact ih (x + 1) (by lia) (by rw [nI1] at x1; lia) (by lia) (Or.inr (by lia))
      unfold w_J9_abs_0f7a4
      refine ⟨fun u => kz ?_, fun u => kz ?_⟩
      · rw [c_52 hC h0 h1, c_22 hC g1 g2]
        have ev : 2 * x + many - g 104 (nt (g 123 (nt s))) = offS g s many x := by unfold offS; rw [if_pos u]
        rw [ev, Int32.mul_comm row]
        unfold w_X5_bestInRow_73 w_X5_bestInRow_80
        refine ⟨by lia, areFree_ok hC hI h0 h1 hr.1 (by lia) m1 hr.2.1 hr.2.2 (fun f => kb1 ⟨fun c => nx _ _ ?_, fun c => ⟨fun c2 => nx _ _ ?_, fun c2 => nx _ _ ?_⟩⟩) (fun f => kb0 (nx _ _ ?_))⟩
        · rw [st1 ⟨f, Or.inl c⟩]
        · rw [st2 (fun u => u.2.elim c (fun u => by lia))]
        · rw [st1 ⟨f, Or.inr (by lia)⟩]
        · rw [st2 (fun u => f u.1)]
      · rw [c_52 hC h0 h1, c_22 hC g1 g2]
        have ev : -(2 * x + many - g 104 (nt (g 123 (nt s)))) = offS g s many x := by unfold offS; rw [if_neg u]
        rw [ev, Int32.mul_comm row]
        unfold w_X5_bestInRow_73 w_X5_bestInRow_80
        refine ⟨by lia, areFree_ok hC hI h0 h1 hr.1 (by lia) m1 hr.2.1 hr.2.2 (fun f => kb1 ⟨fun c => nx _ _ ?_, fun c => ⟨fun c2 => nx _ _ ?_, fun c2 => nx _ _ ?_⟩⟩) (fun f => kb0 (nx _ _ ?_))⟩
        · rw [st1 ⟨f, Or.inl c⟩]
        · rw [st2 (fun u => u.2.elim c (fun u => by lia))]
        · rw [st1 ⟨f, Or.inr (by lia)⟩]
        · rw [st2 (fun u => f u.1)]
  exact ⟨9 + 1, L 9 0 (by decide) rfl (by decide) (Or.inl rfl)⟩
theorem pfg_ok {s many : Int32} (hC : cC S g) (hI : Ia g) (h0 : 0 ≤ s) (h1 : s < g 321 0) (m0 : 2 ≤ many) (m1 : many ≤ 8) (q : Q 0 (sid g s many) S) : w_X5_placeForGroup s many S Q := by
  obtain ⟨-, g1, g2⟩ := i_s1 hI h0 h1
  obtain ⟨a1, a2, a3, a4⟩ := ia_h hI _ g1 g2
  have L : ∀ (d : Nat) (x : Int32), d ≤ 1000 → 0 ≤ x → x + nI d = g 103 (nt (g 123 (nt s))) → x ≤ g 103 (nt (g 123 (nt s))) → sid g s many = sde g s many d x → w_X5_placeForGroup_2 Q (d + 1) s many x S := by
    intro d
    induction d with
    | zero =>
      intro x hd x0 x1 x2 e9
      have e : x = g 103 (nt (g 123 (nt s))) := by rw [← x1]; show x = x + 0; lia
      rw [w_X5_placeForGroup_2, c_52 hC h0 h1, c_21 hC g1 g2]
      exact ⟨by lia, fun _ => by rw [e9] at q; exact q, fun z => by lia⟩
    | succ d ih =>
      intro x hd x0 x1 x2 e9
      rw [nI1] at x1
      rw [w_X5_placeForGroup_2, c_52 hC h0 h1, c_21 hC g1 g2]
      refine ⟨by lia, fun z => ?_, fun z => best_ok hC hI h0 h1 x0 (by lia) m0 m1 (kz ⟨fun c => ih (x + 1) (by omega) (by lia) (by lia) (by lia) ?_, fun c => ?_⟩)⟩
      · exfalso
        have e5 : (nI d).toInt = d := nI_toInt (by omega)
        have e6 : 0 ≤ nI d := by rw [z_le, e5]; exact Int.natCast_nonneg d
        have e7 : nI d ≤ 1000 := by rw [z_le, e5]; show (d : Int) ≤ 1000; omega
        lia
      · rw [e9]
        show (if _ then _ else _) = _
        rw [if_pos c]
      · rw [c_52 hC h0 h1, c_22 hC g1 g2]
        refine ⟨by lia, ?_⟩
        have e8 : sid g s many = g 104 (nt (g 123 (nt s))) * x + (bst g s many x (nps g s many)).1 := by
          rw [e9]
          show (if _ then _ else _) = _
          rw [if_neg c]
        rw [Int32.mul_comm x, ← e8]
        exact q
  have hR : 0 ≤ g 103 (nt (g 123 (nt s))) := by lia
  exact ⟨nt (g 103 (nt (g 123 (nt s)))) + 1, L _ 0 (Nat.le_trans (nt_le (n := 6) (by decide) a2) (by decide)) (by decide) (by rw [nI_nt0 hR]; lia) hR rfl⟩
end GP
