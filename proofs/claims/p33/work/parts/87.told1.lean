/-! isTold: what the law writes for halls, lamps, films, terms, keys, shows -/
section T1
variable {n C : Nat} {g : Gm} {S T : Sg} {Q : Nat → Int32 → Sg → Prop}
theorem rmz {x d : Int32} (h : 0 ≤ x) (hd : 0 < d) : 0 ≤ x - x / d * d ∧ x - x / d * d < d := (z_rem h hd).2
theorem dvz {x d : Int32} (h : 0 ≤ x) (hd : 0 < d) : 0 ≤ x / d ∧ x / d ≤ x := by
  have z0 : (0 : Int32).toInt = 0 := rfl
  have e := z_div h hd
  have h1 := z_le.mp h
  have h2 := z_lt.mp hd
  have h4 : x.toInt / d.toInt ≤ x.toInt := Int.ediv_le_self _ (by omega)
  have h5 : 0 ≤ x.toInt / d.toInt := Int.ediv_nonneg (by omega) (by omega)
  rw [z_le, z_le, e]
  omega
theorem bit {x : Int32} (h : 0 ≤ x) (h1 : x < 2) : x = 0 ∨ x = 1 := by
  by_cases e : x = 0
  · exact Or.inl e
  · exact Or.inr (by lia)
/-- one of the law's counts has changed -/
theorem Lg_set {k : Int32} {v : Int32} {j : Nat} {S : Sg} (h : j ≠ nt k) : (su S 112 (nt k) v).1 112 j = S.1 112 j := su_ne (Or.inr h)
def gHallv (g : Gm) (a b v : Int32) : Gm := gu (gu (gu (gu g 103 (nt (g 302 0)) a) 104 (nt (g 302 0)) b) 106 (nt (g 302 0)) v) 302 0 (g 302 0 + 1)
theorem LR_hallv {a b v : Int32} (h : LR S g) (h0 : 0 ≤ g 302 0) (h1 : g 302 0 < 2) (e : T = su (su (su S 103 (nt (g 302 0)) (a + 8 * b)) 103 (nt (4 + g 302 0)) v) 112 (nt 2) (g 302 0 + 1)) : LR T (gHallv g a b v) := by
  subst e
  obtain ⟨⟨⟨l0, l1, l2, l3, l4, l5, l6, l7⟩, ⟨y1, y2⟩, x2, x3, x4, x5, x6, x7⟩, ha⟩ := h
  have dn : ∀ j : Nat, j ≠ nt 2 → (su (su (su S 103 (nt (g 302 0)) (a + 8 * b)) 103 (nt (4 + g 302 0)) v) 112 (nt 2) (g 302 0 + 1)).1 112 j = S.1 112 j := fun j hj => Lg_set (S := su (su S 103 (nt (g 302 0)) (a + 8 * b)) 103 (nt (4 + g 302 0)) v) hj
  have A : ∀ j : Nat, j ≠ nt (g 302 0) → j ≠ nt (4 + g 302 0) → (su (su (su S 103 (nt (g 302 0)) (a + 8 * b)) 103 (nt (4 + g 302 0)) v) 112 (nt 2) (g 302 0 + 1)).1 103 j = S.1 103 j := fun j j1 j2 => by rw [su_ne (Or.inl (by decide)), su_ne (Or.inr j2), su_ne (Or.inr j1)]
  refine ⟨⟨⟨(dn _ (by decide)).trans l0, (dn _ (by decide)).trans l1, su_at, (dn _ (by decide)).trans l3, (dn _ (by decide)).trans l4, (dn _ (by decide)).trans l5, (dn _ (by decide)).trans l6, (dn _ (by decide)).trans l7⟩, ⟨fun i i0 i1 => ?_, fun i i0 i1 => ?_⟩, x2, x3, x4, x5, x6, x7⟩, ha⟩
  · have i1 : i < g 302 0 + 1 := i1
    rcases i32_lt1 i1 h0 (by lia) with z | z
    · have ne : nt i ≠ nt (g 302 0) := fun q => by rw [nt_inj i0 h0] at q; lia
      rw [A _ ne (fun q => by rw [nt_inj i0 (by lia)] at q; lia), A _ (fun q => by rw [nt_inj (by lia) h0] at q; lia) (fun q => by rw [nt_inj (by lia) (by lia)] at q; lia)]
      have b1 : gHallv g a b v 103 (nt i) = g 103 (nt i) := gu_ne (g := g) (c := 103) (v := a) (Or.inr ne)
      have b2 : gHallv g a b v 104 (nt i) = g 104 (nt i) := gu_ne (g := g) (c := 104) (v := b) (Or.inr ne)
      have b3 : gHallv g a b v 106 (nt i) = g 106 (nt i) := gu_ne (g := g) (c := 106) (v := v) (Or.inr ne)
      rw [b1, b2, b3]
      exact y1 i i0 z
    · subst z
      have c1 : (su (su (su S 103 (nt (g 302 0)) (a + 8 * b)) 103 (nt (4 + g 302 0)) v) 112 (nt 2) (g 302 0 + 1)).1 103 (nt (g 302 0)) = a + 8 * b := by rw [su_ne (Or.inl (by decide)), su_ne (Or.inr (fun q => by rw [nt_inj h0 (by lia)] at q; lia)), su_at]
      have c2 : (su (su (su S 103 (nt (g 302 0)) (a + 8 * b)) 103 (nt (4 + g 302 0)) v) 112 (nt 2) (g 302 0 + 1)).1 103 (nt (4 + g 302 0)) = v := su2 (by decide)
      have b1 : gHallv g a b v 103 (nt (g 302 0)) = a := gu_at (g := g) (c := 103)
      have b2 : gHallv g a b v 104 (nt (g 302 0)) = b := gu_at (g := g) (c := 104)
      have b3 : gHallv g a b v 106 (nt (g 302 0)) = v := by unfold gHallv; rw [gu_ne (by simp), gu_at]
      rw [c1, c2, b1, b2, b3]
      exact ⟨rfl, rfl⟩
  · rw [A _ (fun q => by rw [nt_inj (by lia) h0] at q; lia) (fun q => by rw [nt_inj (by lia) (by lia)] at q; lia)]
    exact y2 i i0 i1
theorem LR_hall {a b : Int32} (h : LR S g) (h0 : 0 ≤ g 302 0) (h1 : g 302 0 < 2) (e : T = su (su (su S 103 (nt (g 302 0)) (a + 8 * b)) 103 (nt (4 + g 302 0)) 5000) 112 (nt 2) (g 302 0 + 1)) : LR T (gHall g a b) := LR_hallv h h0 h1 e
theorem LB_hall {a b : Int32} (hB : LB C g) (h0 : 0 ≤ g 302 0) (h1 : g 302 0 < 2) (ha : a ≤ 3) (hb : b ≤ 4) : LB C (gHall g a b) := by
  obtain ⟨⟨b1, b1'⟩, b2, b3, b4, b5, b6⟩ := hB
  refine ⟨⟨by show g 302 0 + 1 ≤ 2; lia, b1'⟩, fun i i0 i1 => ?_, b3, b4, ?_, fun k k0 k1 => ?_⟩
  · have i1 : i < g 302 0 + 1 := i1
    rcases i32_lt1 i1 h0 (by lia) with z | z
    · have ne : nt i ≠ nt (g 302 0) := fun q => by rw [nt_inj i0 h0] at q; lia
      have b1 : gHall g a b 103 (nt i) = g 103 (nt i) := gu_ne (g := g) (c := 103) (v := a) (Or.inr ne)
      have b2' : gHall g a b 104 (nt i) = g 104 (nt i) := gu_ne (g := g) (c := 104) (v := b) (Or.inr ne)
      rw [b1, b2']
      exact b2 i i0 z
    · subst z
      have b1 : gHall g a b 103 (nt (g 302 0)) = a := gu_at (g := g) (c := 103)
      have b2 : gHall g a b 104 (nt (g 302 0)) = b := gu_at (g := g) (c := 104)
      rw [b1, b2]
      exact ⟨ha, hb⟩
  · show 8 * nt (g 336 0) + 4 * hN (gHall g a b) (nt (g 331 0)) + 4 * lnN (gHall g a b) (nt (g 321 0)) ≤ C
    rw [hN_congr (g := g) (g1 := gHall g a b) _ (fun i _ => rfl), lnN_congr (g := g) (g1 := gHall g a b) _ (fun i _ => rfl)]
    exact b5
  · obtain ⟨z1, z2, z3, z4⟩ := b6 k k0 k1
    exact ⟨z1, z2, z3, by show g 118 (nt k) < g 302 0 + 1; lia⟩
theorem LR_lamp {h' m v : Int32} (h : LR S g) (h0 : 0 ≤ h') (h1 : h' < g 302 0) (h2 : g 302 0 ≤ 2) : LR (su (su S 103 (nt (4 + h')) m) 103 (nt (2 + h')) v) (gu (gu g 106 (nt h') m) 105 (nt h') v) := by
  have h9 : LX (su S 103 (nt (4 + h')) m) (gu g 106 (nt h') m) := by
    obtain ⟨⟨x0, ⟨y1, y2⟩, x2, x3, x4, x5, x6, x7⟩, ha⟩ := h
    refine ⟨x0, ⟨fun j j0 j1 => ?_, fun j j0 j1 => ?_⟩, x2, x3, x4, x5, x6, x7⟩
    · have j1 : j < g 302 0 := j1
      have a : (su S 103 (nt (4 + h')) m).1 103 (nt j) = S.1 103 (nt j) := su_ne (Or.inr (fun z => by rw [nt_inj j0 (by lia)] at z; lia))
      rw [a]
      refine ⟨(y1 j j0 j1).1, ?_⟩
      by_cases z : j = h'
      · subst z
        rw [su_at, gu_at]
      · rw [su_ne (Or.inr (fun y => z (by rw [nt_inj (by lia) (by lia)] at y; lia))), gu_ne (Or.inr (fun y => z ((nt_inj j0 h0).mp y)))]
        exact (y1 j j0 j1).2
    · rw [su_ne (Or.inr (fun z => by rw [nt_inj (by lia) (by lia)] at z; lia))]
      exact y2 j j0 j1
  exact ⟨LX_h5 h9 h0 (by lia) h2, h.2⟩
theorem LR_film {l a p : Int32} (h : LR S g) (h0 : 0 ≤ g 307 0) (h1 : g 307 0 < 3) (e : T = su (su (su (su (su (su S 104 (nt (8 * g 307 0)) l) 104 (nt (8 * g 307 0 + 1)) a) 104 (nt (8 * g 307 0 + 2)) p) 104 (nt (8 * g 307 0 + 3)) 50) 104 (nt (8 * g 307 0 + 5)) 50) 112 (nt 3) (g 307 0 + 1)) : LR T (gFilm g l a p) := by
  obtain ⟨⟨⟨l0, l1, l2, l3, l4, l5, l6, l7⟩, x1, ⟨y1, y2⟩, x3, x4, x5, x6, x7⟩, ha⟩ := h
  have e8 : ∀ i : Int32, 8 * i = 8 * i + 0 := fun i => by lia
  have dn : ∀ j : Nat, j ≠ nt 3 → T.1 112 j = S.1 112 j := fun j hj => by rw [e]; exact Lg_set (S := su (su (su (su (su S 104 (nt (8 * g 307 0)) l) 104 (nt (8 * g 307 0 + 1)) a) 104 (nt (8 * g 307 0 + 2)) p) 104 (nt (8 * g 307 0 + 3)) 50) 104 (nt (8 * g 307 0 + 5)) 50) hj
  have d3 : T.1 112 (nt 3) = g 307 0 + 1 := by rw [e]; exact su_at
  have A : ∀ i k : Int32, 0 ≤ i → i < 3 → 0 ≤ k → k < 8 → T.1 104 (nt (8 * i + k)) = if i = g 307 0 ∧ k = 5 then 50 else if i = g 307 0 ∧ k = 3 then 50 else if i = g 307 0 ∧ k = 2 then p else if i = g 307 0 ∧ k = 1 then a else if i = g 307 0 ∧ k = 0 then l else S.1 104 (nt (8 * i + k)) := fun i k i0 i1 k0 k1 => by
    rw [e, su_ne (Or.inl (by decide)), e8 (g 307 0)]
    simp only [su, true_and]
    have f5 := f_inj i0 i1 k0 k1 h0 h1 (show (0 : Int32) ≤ 5 by decide) (by decide)
    have f3 := f_inj i0 i1 k0 k1 h0 h1 (show (0 : Int32) ≤ 3 by decide) (by decide)
    have f2 := f_inj i0 i1 k0 k1 h0 h1 (show (0 : Int32) ≤ 2 by decide) (by decide)
    have f1 := f_inj i0 i1 k0 k1 h0 h1 (show (0 : Int32) ≤ 1 by decide) (by decide)
    have f0 := f_inj i0 i1 k0 k1 h0 h1 (show (0 : Int32) ≤ 0 by decide) (by decide)
    have ew : 8 * g 307 0 + 0 = 8 * g 307 0 := by lia
    rw [ew] at f0 ⊢
    simp only [f5, f3, f2, f1, f0]
  have no : ∀ {i k : Int32} {x y : Int32}, ¬ (i = g 307 0 ∧ k = x) → ∀ {u w : Int32}, (if i = g 307 0 ∧ k = x then u else w) = w := fun h => if_neg h
  have yes : ∀ {i k : Int32}, i = g 307 0 → ∀ {x u w : Int32}, k = x → (if i = g 307 0 ∧ k = x then u else w) = u := fun h _ _ _ hk => if_pos ⟨h, hk⟩
  have gz : ∀ (c : Nat) (i : Int32), i ≠ g 307 0 → 0 ≤ i → 108 ≤ c → c ≤ 115 → gFilm g l a p c (nt i) = g c (nt i) := fun c i ne i0 c0 c1 => by
    have nn : nt i ≠ nt (g 307 0) := fun q => ne ((nt_inj i0 h0).mp q)
    unfold gFilm
    rw [gu_ne (Or.inl (by omega)), gu_ne (Or.inr nn), gu_ne (Or.inr nn), gu_ne (Or.inr nn), gu_ne (Or.inr nn), gu_ne (Or.inr nn)]
  have gy : ∀ (c : Nat) (i : Nat), c = 112 ∨ c = 114 ∨ c = 115 → gFilm g l a p c i = g c i := fun c i hc => by
    unfold gFilm
    rw [gu_ne (Or.inl (by omega)), gu_ne (Or.inl (by omega)), gu_ne (Or.inl (by omega)), gu_ne (Or.inl (by omega)), gu_ne (Or.inl (by omega)), gu_ne (Or.inl (by omega))]
  have e108 : gFilm g l a p 108 (nt (g 307 0)) = l := by unfold gFilm; rw [gu_ne (by simp), gu_ne (by simp), gu_ne (by simp), gu_ne (by simp), gu_ne (by simp), gu_at]
  have e109 : gFilm g l a p 109 (nt (g 307 0)) = a := by unfold gFilm; rw [gu_ne (by simp), gu_ne (by simp), gu_ne (by simp), gu_ne (by simp), gu_at]
  have e110 : gFilm g l a p 110 (nt (g 307 0)) = p := by unfold gFilm; rw [gu_ne (by simp), gu_ne (by simp), gu_ne (by simp), gu_at]
  have e111 : gFilm g l a p 111 (nt (g 307 0)) = 50 := by unfold gFilm; rw [gu_ne (by simp), gu_ne (by simp), gu_at]
  have e113 : gFilm g l a p 113 (nt (g 307 0)) = 50 := by unfold gFilm; rw [gu_ne (by simp), gu_at]
  have k : ∀ c i, c ≠ 104 → c ≠ 112 → T.1 c i = S.1 c i := fun c i h1 h2 => by
    rw [e, su_ne (Or.inl h2), su_ne (Or.inl h1), su_ne (Or.inl h1), su_ne (Or.inl h1), su_ne (Or.inl h1), su_ne (Or.inl h1)]
  have go : ∀ c i, c ≠ 108 → c ≠ 109 → c ≠ 110 → c ≠ 111 → c ≠ 113 → c ≠ 307 → gFilm g l a p c i = g c i := fun c i z1 z2 z3 z4 z5 z6 => by
    unfold gFilm
    rw [gu_ne (Or.inl z6), gu_ne (Or.inl z5), gu_ne (Or.inl z4), gu_ne (Or.inl z3), gu_ne (Or.inl z2), gu_ne (Or.inl z1)]
  have e307 : gFilm g l a p 307 0 = g 307 0 + 1 := by unfold gFilm; rw [gu_at]
  clear e
  refine ⟨⟨⟨(dn _ (by decide)).trans l0, (dn _ (by decide)).trans l1, (dn _ (by decide)).trans l2, d3.trans e307.symm, (dn _ (by decide)).trans l4, (dn _ (by decide)).trans l5, (dn _ (by decide)).trans l6, (dn _ (by decide)).trans l7⟩, ⟨fun i x y => ?_, fun i x y => ?_⟩, ⟨fun i i0 i1 => ?_, fun i i0 i1 => ?_⟩, fun i x y => ?_, fun i x y => ?_, fun i x y => ?_, fun i x y => ?_, fun s n x y z w => ?_⟩, fun s q x y z w => ?_⟩
  · rw [k _ _ (by decide) (by decide), k _ _ (by decide) (by decide)]; exact x1.1 i x y
  · rw [k _ _ (by decide) (by decide)]; exact x1.2 i x y
  · rw [e307] at i1
    rcases i32_lt1 i1 h0 (by lia) with z | z
    · have ne : i ≠ g 307 0 := fun q => by rw [q] at z; lia
      have A2 : ∀ m : Int32, 0 ≤ m → m < 8 → T.1 104 (nt (8 * i + m)) = S.1 104 (nt (8 * i + m)) := fun m m0 m1 => by
        rw [A i m i0 (by lia) m0 m1, if_neg (fun q => ne q.1), if_neg (fun q => ne q.1), if_neg (fun q => ne q.1), if_neg (fun q => ne q.1), if_neg (fun q => ne q.1)]
      have a0 := A2 0 (by decide) (by decide)
      rw [← e8 i] at a0
      rw [a0, A2 1 (by decide) (by decide), A2 2 (by decide) (by decide), A2 3 (by decide) (by decide), A2 5 (by decide) (by decide), gz 108 i ne i0 (by omega) (by omega), gz 109 i ne i0 (by omega) (by omega), gz 110 i ne i0 (by omega) (by omega), gz 111 i ne i0 (by omega) (by omega), gz 113 i ne i0 (by omega) (by omega)]
      exact y1 i i0 z
    · have a0 := A i 0 i0 (by lia) (by decide) (by decide)
      have a1 := A i 1 i0 (by lia) (by decide) (by decide)
      have a2 := A i 2 i0 (by lia) (by decide) (by decide)
      have a3 := A i 3 i0 (by lia) (by decide) (by decide)
      have a5 := A i 5 i0 (by lia) (by decide) (by decide)
      rw [← e8 i] at a0
      rw [if_neg (fun q => absurd q.2 (by decide)), if_neg (fun q => absurd q.2 (by decide)), if_neg (fun q => absurd q.2 (by decide)), if_neg (fun q => absurd q.2 (by decide)), if_pos ⟨z, rfl⟩] at a0
      rw [if_neg (fun q => absurd q.2 (by decide)), if_neg (fun q => absurd q.2 (by decide)), if_neg (fun q => absurd q.2 (by decide)), if_pos ⟨z, rfl⟩] at a1
      rw [if_neg (fun q => absurd q.2 (by decide)), if_neg (fun q => absurd q.2 (by decide)), if_pos ⟨z, rfl⟩] at a2
      rw [if_neg (fun q => absurd q.2 (by decide)), if_pos ⟨z, rfl⟩] at a3
      rw [if_pos ⟨z, rfl⟩] at a5
      rw [a0, a1, a2, a3, a5, z, e108, e109, e110, e111, e113]
      exact ⟨rfl, rfl, rfl, rfl, rfl⟩
  · have A2 : ∀ m : Int32, 0 ≤ m → m < 8 → m ≠ 0 → m ≠ 1 → m ≠ 2 → m ≠ 3 → m ≠ 5 → T.1 104 (nt (8 * i + m)) = S.1 104 (nt (8 * i + m)) := fun m m0 m1 z0 z1 z2 z3 z5 => by
      rw [A i m i0 (by lia) m0 m1, if_neg (fun q => z5 q.2), if_neg (fun q => z3 q.2), if_neg (fun q => z2 q.2), if_neg (fun q => z1 q.2), if_neg (fun q => z0 q.2)]
    rw [A2 4 (by decide) (by decide) (by decide) (by decide) (by decide) (by decide) (by decide), A2 6 (by decide) (by decide) (by decide) (by decide) (by decide) (by decide) (by decide), A2 7 (by decide) (by decide) (by decide) (by decide) (by decide) (by decide) (by decide), gy 112 _ (by omega), gy 114 _ (by omega), gy 115 _ (by omega)]
    exact y2 i i0 i1
  · rw [k _ _ (by decide) (by decide), k _ _ (by decide) (by decide), k _ _ (by decide) (by decide)]; exact x3 i x y
  · rw [k _ _ (by decide) (by decide), k _ _ (by decide) (by decide)]; exact x4 i x y
  · rw [k _ _ (by decide) (by decide), k _ _ (by decide) (by decide)]; exact x5 i x y
  · rw [k _ _ (by decide) (by decide), k _ _ (by decide) (by decide)]; exact x6 i x y
  · rw [k _ _ (by decide) (by decide)]; exact x7 s n x y z w
  · rw [k _ _ (by decide) (by decide)]; exact ha s q x y z w
theorem LB_film {l a p : Int32} (hB : LB C g) (h1 : g 307 0 < 3) (h0 : 0 ≤ g 307 0) : LB C (gFilm g l a p) := by
  obtain ⟨⟨b0, b1, b1'⟩, b2, b3, b4, b5, b6⟩ := hB
  refine ⟨⟨b0, by show g 307 0 + 1 ≤ 3; lia, b1'⟩, b2, b3, b4, ?_, fun k k0 k1 => ?_⟩
  · show 8 * nt (g 336 0) + 4 * hN (gFilm g l a p) (nt (g 331 0)) + 4 * lnN (gFilm g l a p) (nt (g 321 0)) ≤ C
    rw [hN_congr (g := g) (g1 := gFilm g l a p) _ (fun i _ => rfl), lnN_congr (g := g) (g1 := gFilm g l a p) _ (fun i _ => rfl)]
    exact b5
  · obtain ⟨z1, z2, z3, z4⟩ := b6 k k0 k1
    exact ⟨z1, by show g 117 (nt k) < g 307 0 + 1; lia, z3, z4⟩
theorem LR_terms {f a b c d e : Int32} (h : LR S g) (f0 : 0 ≤ f) (f1 : f < g 307 0) (f2 : g 307 0 ≤ 3) (eT : T = su (su (su (su (su S 104 (nt (8 * f + 3)) a) 104 (nt (8 * f + 4)) b) 104 (nt (8 * f + 5)) c) 104 (nt (8 * f + 6)) d) 104 (nt (8 * f + 7)) e) : LR T (gTerms g f a b c d e) := by
  obtain ⟨⟨⟨l0, l1, l2, l3, l4, l5, l6, l7⟩, x1, ⟨y1, y2⟩, x3, x4, x5, x6, x7⟩, ha⟩ := h
  have e8 : ∀ i : Int32, 8 * i = 8 * i + 0 := fun i => by lia
  have k : ∀ c i, c ≠ 104 → T.1 c i = S.1 c i := fun c i h1 => by
    rw [eT, su_ne (Or.inl h1), su_ne (Or.inl h1), su_ne (Or.inl h1), su_ne (Or.inl h1), su_ne (Or.inl h1)]
  have A : ∀ i m : Int32, 0 ≤ i → i < 3 → 0 ≤ m → m < 8 → T.1 104 (nt (8 * i + m)) = if i = f ∧ m = 7 then e else if i = f ∧ m = 6 then d else if i = f ∧ m = 5 then c else if i = f ∧ m = 4 then b else if i = f ∧ m = 3 then a else S.1 104 (nt (8 * i + m)) := fun i m i0 i1 k0 k1 => by
    rw [eT]
    simp only [su, true_and]
    have g7 := f_inj i0 i1 k0 k1 f0 (by lia) (show (0 : Int32) ≤ 7 by decide) (by decide)
    have g6 := f_inj i0 i1 k0 k1 f0 (by lia) (show (0 : Int32) ≤ 6 by decide) (by decide)
    have g5 := f_inj i0 i1 k0 k1 f0 (by lia) (show (0 : Int32) ≤ 5 by decide) (by decide)
    have g4 := f_inj i0 i1 k0 k1 f0 (by lia) (show (0 : Int32) ≤ 4 by decide) (by decide)
    have g3 := f_inj i0 i1 k0 k1 f0 (by lia) (show (0 : Int32) ≤ 3 by decide) (by decide)
    simp only [g7, g6, g5, g4, g3]
  clear eT
  have G : ∀ (i : Int32), 0 ≤ i → gTerms g f a b c d e 111 (nt i) = (if i = f then a else g 111 (nt i)) ∧ gTerms g f a b c d e 112 (nt i) = (if i = f then b else g 112 (nt i)) ∧ gTerms g f a b c d e 113 (nt i) = (if i = f then c else g 113 (nt i)) ∧ gTerms g f a b c d e 114 (nt i) = (if i = f then d else g 114 (nt i)) ∧ gTerms g f a b c d e 115 (nt i) = (if i = f then e else g 115 (nt i)) := fun i i0 => by
    have q := nt_inj i0 f0
    unfold gTerms
    simp [gu, q]
  have go : ∀ c' i, c' < 111 ∨ 115 < c' → gTerms g f a b c d e c' i = g c' i := fun c' i z => by
    unfold gTerms
    rw [gu_ne (Or.inl (by omega)), gu_ne (Or.inl (by omega)), gu_ne (Or.inl (by omega)), gu_ne (Or.inl (by omega)), gu_ne (Or.inl (by omega))]
  refine ⟨⟨⟨(k _ _ (by decide)).trans l0, (k _ _ (by decide)).trans l1, (k _ _ (by decide)).trans l2, (k _ _ (by decide)).trans l3, (k _ _ (by decide)).trans l4, (k _ _ (by decide)).trans l5, (k _ _ (by decide)).trans l6, (k _ _ (by decide)).trans l7⟩, ⟨fun i x y => ?_, fun i x y => ?_⟩, ⟨fun i i0 i1 => ?_, fun i i0 i1 => ?_⟩, fun i x y => ?_, fun i x y => ?_, fun i x y => ?_, fun i x y => ?_, fun s n x y z w => ?_⟩, fun s q x y z w => ?_⟩
  · rw [k _ _ (by decide), k _ _ (by decide)]; exact x1.1 i x y
  · rw [k _ _ (by decide)]; exact x1.2 i x y
  · have i1 : i < g 307 0 := i1
    obtain ⟨q1, q2, q3, q4, q5⟩ := G i i0
    obtain ⟨w1, w2, w3, w4, w5⟩ := y1 i i0 i1
    have a0 := A i 0 i0 (by lia) (by decide) (by decide)
    rw [← e8 i] at a0
    rw [a0, A i 1 i0 (by lia) (by decide) (by decide), A i 2 i0 (by lia) (by decide) (by decide), A i 3 i0 (by lia) (by decide) (by decide), A i 5 i0 (by lia) (by decide) (by decide), q1, q3, go 108 _ (by omega), go 109 _ (by omega), go 110 _ (by omega), w1, w2, w3, w4, w5]
    refine ⟨by simp, by simp, by simp, by simp, by simp⟩
  · obtain ⟨q1, q2, q3, q4, q5⟩ := G i i0
    obtain ⟨w1, w2, w3⟩ := y2 i i0 i1
    rw [A i 4 i0 (by lia) (by decide) (by decide), A i 6 i0 (by lia) (by decide) (by decide), A i 7 i0 (by lia) (by decide) (by decide), q2, q4, q5, w1, w2, w3]
    refine ⟨by simp, by simp, by simp⟩
  · rw [k _ _ (by decide), k _ _ (by decide), k _ _ (by decide)]; exact x3 i x y
  · rw [k _ _ (by decide), k _ _ (by decide)]; exact x4 i x y
  · rw [k _ _ (by decide), k _ _ (by decide)]; exact x5 i x y
  · rw [k _ _ (by decide), k _ _ (by decide)]; exact x6 i x y
  · rw [k _ _ (by decide)]; exact x7 s n x y z w
  · rw [k _ _ (by decide)]; exact ha s q x y z w
theorem LB_terms {f a b c d e : Int32} (hB : LB C g) : LB C (gTerms g f a b c d e) := LB_same hB (fun c' i z => by
  unfold gTerms
  rw [gu_ne (Or.inl (by omega)), gu_ne (Or.inl (by omega)), gu_ne (Or.inl (by omega)), gu_ne (Or.inl (by omega)), gu_ne (Or.inl (by omega))])
end T1
