/-! isTold: keys, spreads, shows, and how each call is told -/
section T2
variable {n C : Nat} {g : Gm} {S T : Sg} {Q : Nat → Int32 → Sg → Prop}
theorem LR_key {f h' a b : Int32} (h : LR S g) (h0 : 0 ≤ g 316 0) (h1 : g 316 0 < 12) (e : T = su (su (su (su S 105 (nt (g 316 0)) (f + 4 * h')) 105 (nt (12 + g 316 0)) a) 105 (nt (24 + g 316 0)) b) 112 (nt 4) (g 316 0 + 1)) : LR T (gKey g f h' a b) := by
  obtain ⟨⟨⟨l0, l1, l2, l3, l4, l5, l6, l7⟩, x1, x2, x3, x4, x5, x6, x7⟩, ha⟩ := h
  have k : ∀ c i, c ≠ 105 → c ≠ 112 → T.1 c i = S.1 c i := fun c i z1 z2 => by
    rw [e, su_ne (Or.inl z2), su_ne (Or.inl z1), su_ne (Or.inl z1), su_ne (Or.inl z1)]
  have dn : ∀ j : Nat, j ≠ nt 4 → T.1 112 j = S.1 112 j := fun j hj => by rw [e, su_ne (Or.inr hj), su_ne (Or.inl (by decide)), su_ne (Or.inl (by decide)), su_ne (Or.inl (by decide))]
  have d4 : T.1 112 (nt 4) = g 316 0 + 1 := by rw [e, su_at]
  have A : ∀ j : Nat, T.1 105 j = if j = nt (24 + g 316 0) then b else if j = nt (12 + g 316 0) then a else if j = nt (g 316 0) then f + 4 * h' else S.1 105 j := fun j => by
    rw [e, su_ne (Or.inl (by decide))]
    simp only [su, true_and]
  clear e
  have e316 : gKey g f h' a b 316 0 = g 316 0 + 1 := by unfold gKey; rw [gu_at]
  have G : ∀ (i : Int32), 0 ≤ i → gKey g f h' a b 117 (nt i) = (if i = g 316 0 then f else g 117 (nt i)) ∧ gKey g f h' a b 118 (nt i) = (if i = g 316 0 then h' else g 118 (nt i)) ∧ gKey g f h' a b 119 (nt i) = (if i = g 316 0 then a else g 119 (nt i)) ∧ gKey g f h' a b 120 (nt i) = (if i = g 316 0 then b else g 120 (nt i)) := fun i i0 => by
    have q := nt_inj i0 h0
    unfold gKey
    simp [gu, q]
  refine ⟨⟨⟨(dn _ (by decide)).trans l0, (dn _ (by decide)).trans l1, (dn _ (by decide)).trans l2, (dn _ (by decide)).trans l3, d4.trans e316.symm, (dn _ (by decide)).trans l5, (dn _ (by decide)).trans l6, (dn _ (by decide)).trans l7⟩, ⟨fun i x y => ?_, fun i x y => ?_⟩, ⟨fun i i0 i1 => ?_, fun i i0 i1 => ?_⟩, fun i x y => ?_, fun i x y => ?_, fun i x y => ?_, fun i x y => ?_, fun s n x y z w => ?_⟩, fun s q x y z w => ?_⟩
  · rw [k _ _ (by decide) (by decide), k _ _ (by decide) (by decide)]; exact x1.1 i x y
  · rw [k _ _ (by decide) (by decide)]; exact x1.2 i x y
  · rw [k _ _ (by decide) (by decide), k _ _ (by decide) (by decide), k _ _ (by decide) (by decide), k _ _ (by decide) (by decide), k _ _ (by decide) (by decide)]; exact x2.1 i i0 i1
  · rw [k _ _ (by decide) (by decide), k _ _ (by decide) (by decide), k _ _ (by decide) (by decide)]; exact x2.2 i i0 i1
  · rw [e316] at y
    obtain ⟨q1, q2, q3, q4⟩ := G i x
    rw [q1, q2, q3, q4, A, A, A, if_neg (fun z => by rw [nt_inj x (by lia)] at z; lia), if_neg (fun z => by rw [nt_inj x (by lia)] at z; lia), if_neg (show ¬ nt (12 + i) = nt (24 + g 316 0) from fun z => by rw [nt_inj (by lia) (by lia)] at z; lia)]
    rcases i32_lt1 y h0 (by lia) with z | z
    · have ne : ¬ i = g 316 0 := fun q => by rw [q] at z; lia
      rw [if_neg (fun z => ne ((nt_inj x h0).mp z)), if_neg (show ¬ nt (12 + i) = nt (12 + g 316 0) from fun z => by rw [nt_inj (by lia) (by lia)] at z; lia), if_neg (show ¬ nt (12 + i) = nt (g 316 0) from fun z => by rw [nt_inj (by lia) (by lia)] at z; lia), if_neg (show ¬ nt (24 + i) = nt (24 + g 316 0) from fun z => by rw [nt_inj (by lia) (by lia)] at z; lia), if_neg (show ¬ nt (24 + i) = nt (12 + g 316 0) from fun z => by rw [nt_inj (by lia) (by lia)] at z; lia), if_neg (show ¬ nt (24 + i) = nt (g 316 0) from fun z => by rw [nt_inj (by lia) (by lia)] at z; lia), if_neg ne, if_neg ne, if_neg ne, if_neg ne]
      exact x3 i x z
    · rw [z, if_pos rfl, if_pos rfl, if_pos rfl, if_pos rfl, if_pos rfl, if_pos rfl, if_pos rfl]
      exact ⟨rfl, rfl, rfl⟩
  · rw [k _ _ (by decide) (by decide), k _ _ (by decide) (by decide)]; exact x4 i x y
  · rw [k _ _ (by decide) (by decide), k _ _ (by decide) (by decide)]; exact x5 i x y
  · rw [k _ _ (by decide) (by decide), k _ _ (by decide) (by decide)]; exact x6 i x y
  · rw [k _ _ (by decide) (by decide)]; exact x7 s n x y z w
  · rw [k _ _ (by decide) (by decide)]; exact ha s q x y z w
theorem LB_key {f h' a b : Int32} (hB : LB C g) (h0 : 0 ≤ g 316 0) (h1 : g 316 0 < 12) (hf : isX g 307 f) (hh : isX g 302 h') : LB C (gKey g f h' a b) := by
  obtain ⟨⟨b0, b1, b1', b1''⟩, b2, b3, b4, b5, b6⟩ := hB
  refine ⟨⟨b0, b1, by show g 316 0 + 1 ≤ 12; lia, b1''⟩, b2, b3, b4, ?_, fun k k0 k1 => ?_⟩
  · show 8 * nt (g 336 0) + 4 * hN (gKey g f h' a b) (nt (g 331 0)) + 4 * lnN (gKey g f h' a b) (nt (g 321 0)) ≤ C
    rw [hN_congr (g := g) (g1 := gKey g f h' a b) _ (fun i _ => rfl), lnN_congr (g := g) (g1 := gKey g f h' a b) _ (fun i _ => rfl)]
    exact b5
  · have k1 : k < g 316 0 + 1 := k1
    have q := nt_inj k0 h0
    have e1 : gKey g f h' a b 117 (nt k) = (if k = g 316 0 then f else g 117 (nt k)) := by unfold gKey; simp [gu, q]
    have e2 : gKey g f h' a b 118 (nt k) = (if k = g 316 0 then h' else g 118 (nt k)) := by unfold gKey; simp [gu, q]
    show 0 ≤ gKey g f h' a b 117 (nt k) ∧ gKey g f h' a b 117 (nt k) < g 307 0 ∧ 0 ≤ gKey g f h' a b 118 (nt k) ∧ gKey g f h' a b 118 (nt k) < g 302 0
    rw [e1, e2]
    split
    · exact ⟨hf.1, hf.2, hh.1, hh.2⟩
    · rename_i ne
      exact b6 k k0 ((i32_lt1 k1 h0 (by lia)).resolve_right ne)
theorem LR_spr {v : Int32} (h : LR S g) : LR (su S 112 (nt 1) v) (gu g 301 0 v) := by
  obtain ⟨⟨⟨l0, l1, l2, l3, l4, l5, l6, l7⟩, x1, x2, x3, x4, x5, x6, x7⟩, ha⟩ := h
  have dn : ∀ j : Nat, j ≠ nt 1 → (su S 112 (nt 1) v).1 112 j = S.1 112 j := fun j hj => su_ne (Or.inr hj)
  exact ⟨⟨⟨(dn _ (by decide)).trans l0, su_at, (dn _ (by decide)).trans l2, (dn _ (by decide)).trans l3, (dn _ (by decide)).trans l4, (dn _ (by decide)).trans l5, (dn _ (by decide)).trans l6, (dn _ (by decide)).trans l7⟩, x1, x2, x3, x4, x5, x6, x7⟩, ha⟩
theorem LR_show {f h' t : Int32} (h : LR S g) (hI : Ia g) (h0 : 0 ≤ g 321 0) (h1 : g 321 0 < 5) (e : T = su (su (su S 106 (nt (g 321 0)) (f + 4 * h')) 106 (nt (5 + g 321 0)) t) 112 (nt 5) (g 321 0 + 1)) : LR T (gShow g f h' t) := by
  obtain ⟨⟨⟨l0, l1, l2, l3, l4, l5, l6, l7⟩, x1, x2, x3, x4, x5, x6, x7⟩, ha⟩ := h
  have k : ∀ c i, c ≠ 106 → c ≠ 112 → T.1 c i = S.1 c i := fun c i z1 z2 => by
    rw [e, su_ne (Or.inl z2), su_ne (Or.inl z1), su_ne (Or.inl z1)]
  have dn : ∀ j : Nat, j ≠ nt 5 → T.1 112 j = S.1 112 j := fun j hj => by rw [e, su_ne (Or.inr hj), su_ne (Or.inl (by decide)), su_ne (Or.inl (by decide))]
  have d5 : T.1 112 (nt 5) = g 321 0 + 1 := by rw [e, su_at]
  have A : ∀ j : Nat, T.1 106 j = if j = nt (5 + g 321 0) then t else if j = nt (g 321 0) then f + 4 * h' else S.1 106 j := fun j => by
    rw [e, su_ne (Or.inl (by decide))]
    simp only [su, true_and]
  clear e
  have e321 : gShow g f h' t 321 0 = g 321 0 + 1 := by unfold gShow; rw [gu_at]
  have s125 := (ia_su hI (g 321 0) (by lia) (by lia)).1
  have G : ∀ (i : Int32), 0 ≤ i → gShow g f h' t 122 (nt i) = (if i = g 321 0 then f else g 122 (nt i)) ∧ gShow g f h' t 123 (nt i) = (if i = g 321 0 then h' else g 123 (nt i)) ∧ gShow g f h' t 124 (nt i) = (if i = g 321 0 then t else g 124 (nt i)) ∧ gShow g f h' t 125 (nt i) = g 125 (nt i) := fun i i0 => by
    have q := nt_inj i0 h0
    unfold gShow
    simp [gu, q]
  refine ⟨⟨⟨(dn _ (by decide)).trans l0, (dn _ (by decide)).trans l1, (dn _ (by decide)).trans l2, (dn _ (by decide)).trans l3, (dn _ (by decide)).trans l4, d5.trans e321.symm, (dn _ (by decide)).trans l6, (dn _ (by decide)).trans l7⟩, ⟨fun i x y => ?_, fun i x y => ?_⟩, ⟨fun i i0 i1 => ?_, fun i i0 i1 => ?_⟩, fun i x y => ?_, fun i x y => ?_, fun i x y => ?_, fun i x y => ?_, fun s n x y z w => ?_⟩, fun s q x y z w => ?_⟩
  · rw [k _ _ (by decide) (by decide), k _ _ (by decide) (by decide)]; exact x1.1 i x y
  · rw [k _ _ (by decide) (by decide)]; exact x1.2 i x y
  · rw [k _ _ (by decide) (by decide), k _ _ (by decide) (by decide), k _ _ (by decide) (by decide), k _ _ (by decide) (by decide), k _ _ (by decide) (by decide)]; exact x2.1 i i0 i1
  · rw [k _ _ (by decide) (by decide), k _ _ (by decide) (by decide), k _ _ (by decide) (by decide)]; exact x2.2 i i0 i1
  · rw [k _ _ (by decide) (by decide), k _ _ (by decide) (by decide), k _ _ (by decide) (by decide)]; exact x3 i x y
  · rw [e321] at y
    obtain ⟨q1, q2, q3, q4⟩ := G i x
    rw [q1, q2, q3, q4, A, A, if_neg (show ¬ nt i = nt (5 + g 321 0) from fun z => by rw [nt_inj x (by lia)] at z; lia)]
    rcases i32_lt1 y h0 (by lia) with z | z
    · have ne : ¬ i = g 321 0 := fun q => by rw [q] at z; lia
      rw [if_neg (show ¬ nt i = nt (g 321 0) from fun z => ne ((nt_inj x h0).mp z)), if_neg (show ¬ nt (5 + i) = nt (5 + g 321 0) from fun z => by rw [nt_inj (by lia) (by lia)] at z; lia), if_neg (show ¬ nt (5 + i) = nt (g 321 0) from fun z => by rw [nt_inj (by lia) (by lia)] at z; lia), if_neg ne, if_neg ne, if_neg ne]
      exact x4 i x z
    · rw [z, if_pos rfl, if_pos rfl, if_pos rfl, if_pos rfl, if_pos rfl, s125]
      exact ⟨by lia, rfl⟩
  · rw [k _ _ (by decide) (by decide), k _ _ (by decide) (by decide)]; exact x5 i x y
  · rw [k _ _ (by decide) (by decide), k _ _ (by decide) (by decide)]; exact x6 i x y
  · rw [k _ _ (by decide) (by decide)]; exact x7 s n x y z w
  · rw [k _ _ (by decide) (by decide)]; exact ha s q x y z w
theorem LB_show {f h' t : Int32} (hB : LB C g) (hI : Ia g) (h0 : 0 ≤ g 321 0) (h1 : g 321 0 < 5) : LB C (gShow g f h' t) := by
  obtain ⟨⟨b0, b1, b1', b1'', b1'''⟩, b2, b3, b4, b5, b6⟩ := hB
  have s128 := (ia_su hI (g 321 0) (by lia) (by lia)).2
  refine ⟨⟨b0, b1, b1', by show g 321 0 + 1 ≤ 5; lia, b1'''⟩, b2, b3, fun s s0 s1 => ?_, ?_, b6⟩
  · have s1 : s < g 321 0 + 1 := s1
    show g 128 (nt s) ≤ 9 ∧ ∀ k : Int32, 0 ≤ k → k < g 128 (nt s) → 0 ≤ g 129 (nt (40 * s + k)) ∧ g 129 (nt (40 * s + k)) ≤ 120
    rcases i32_lt1 s1 h0 (by lia) with z | z
    · exact b4 s s0 z
    · rw [z, s128]
      exact ⟨by decide, fun k k0 k1 => by exfalso; lia⟩
  · show 8 * nt (g 336 0) + 4 * hN (gShow g f h' t) (nt (g 331 0)) + 4 * lnN (gShow g f h' t) (nt (g 321 0 + 1)) ≤ C
    have e : lnN g (nt (g 321 0 + 1)) = lnN g (nt (g 321 0)) := by
      rw [ntS h0 (by lia)]
      show lnN g (nt (g 321 0)) + nt (g 128 (nt (g 321 0))) = _
      rw [s128, show nt 0 = 0 by decide]; rfl
    rw [hN_congr (g := g) (g1 := gShow g f h' t) _ (fun i _ => rfl), lnN_congr (g := g) (g1 := gShow g f h' t) _ (fun i _ => rfl), e]
    exact b5
/-- how a case of isTold goes on -/
def TK (n C : Nat) (g : Gm) (Q : Nat → Int32 → Sg → Prop) : Prop := ∀ g1 T, RA (n + 1) C g1 T → g1 336 0 = g 336 0 → g1 300 0 = g 300 0 → Q 0 1 T
theorem TK0 (h : RA n C g S) (q : TK n C g Q) : Q 0 1 S := q g S (RA_up h) rfl rfl
theorem T_hall {a b ok : Int32} (h : RA n C g S) (hn : n < 20000) (h2 : g 302 0 < 2) (ha : a = 0 ∨ a = 7 ∨ (1 ≤ a ∧ a ≤ 3)) (hb : b = 0 ∨ b = 9 ∨ (1 ≤ b ∧ b ≤ 4)) (hok : ok = 1 ∧ (1 ≤ a ∧ a ≤ 3) ∧ (1 ≤ b ∧ b ≤ 4) ∨ ok = 0 ∧ ¬ ((1 ≤ a ∧ a ≤ 3) ∧ (1 ≤ b ∧ b ≤ 4))) (q : TK n C g Q) : w_L_isTold_100 Q a b ok S := by
  have hI := h.2.1
  obtain ⟨-, -, -, -, n0, -⟩ := i_n hI
  have hx := h.2.2.1.1
  unfold w_L_isTold_100 w_L_isTold_140 w_L_isTold_168
  rcases hok with ⟨e, ka, kb⟩ | ⟨e, kn⟩
  · subst e
    refine ⟨fun z => absurd z (by decide), fun _ => ?_⟩
    rw [lg_2 hx]
    refine ⟨vd, va n0 (by show _ < 7; lia), ?_⟩
    intro S55 e55
    have m55 : S55.1 112 (nt 2) = g 302 0 := by rw [e55, su_ne (Or.inl (by decide))]; exact lg_2 hx
    rw [m55]
    refine ⟨vd, va (by lia) (by show _ < 7; lia), ?_⟩
    intro S56 e56
    have m56 : S56.1 112 (nt 2) = g 302 0 := by rw [e56, su_ne (Or.inl (by decide))]; exact m55
    rw [m56]
    refine ⟨vd, vd, ?_⟩
    intro S57 e57
    have hL : LR S57 (gHall g a b) := LR_hall h.2.2.1 n0 h2 (by rw [e57, e56, e55])
    have hc : clf S S57 := by rw [e57, e56, e55]; exact clf_l (clf_l (clf_l clf_rf))
    have er : rHall g a b = (0, g 302 0, gHall g a b) := by
      unfold rHall
      rw [if_pos ⟨⟨by lia, by lia⟩, by lia, by lia⟩, if_neg (by lia)]
    have hI1 : Iv (gHall g a b) := by have := Iv_hall (a := a) (b := b) hI; rw [er] at this; exact this
    refine dz_0 (RA_c h ⟨hL, hc⟩) hI (RA_b h ⟨hL, hc⟩) hn (RA_go ⟨hL, hc⟩ (by rw [er]) hI1 (LB_hall h.2.2.2.1 n0 h2 ka.2 kb.2) (v := g 302 0) (by rw [er, dva_0]) (fun S2 r2 => kz ⟨fun z => absurd z (by decide), fun _ => ⟨vd, ?_⟩⟩))
    rw [lg_2 r2.2.2.1.1, show gHall g a b 302 0 - 1 = g 302 0 by show g 302 0 + 1 - 1 = g 302 0; lia]
    exact ⟨fun _ => q _ S2 r2 rfl rfl, fun z => absurd rfl z⟩
  · subst e
    refine ⟨fun _ => ?_, fun z => absurd rfl z⟩
    have er : rHall g a b = (1, 0, g) := by
      unfold rHall
      rw [if_neg]
      rintro ⟨⟨k1, k2⟩, k3, k4⟩
      exact kn ⟨by rcases ha with z | z | z; exfalso; lia; exfalso; lia; exact z, by rcases hb with z | z | z; exfalso; lia; exfalso; lia; exact z⟩
    refine dz_0 h.1 hI h.2.2.2.2 hn (RA_go (lS_rf h) (by rw [er]) hI h.2.2.2.1 (v := -2000000) (by rw [er, dva_1]) (fun S2 r2 => kz ⟨fun _ => ⟨fun _ => q _ S2 r2 rfl rfl, fun z => absurd rfl z⟩, fun z => absurd rfl z⟩))
end T2
