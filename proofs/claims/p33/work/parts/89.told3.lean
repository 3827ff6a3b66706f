/-! isTold: lamps, films, terms, keys, spreads, shows, first -/
section T3
variable {n C : Nat} {g : Gm} {S T : Sg} {Q : Nat → Int32 → Sg → Prop}
theorem lamp_mk {h' m n : Int32} : gLamp g h' m n = gu (gu g 106 (nt h') m) 105 (nt h') (if n = 0 then g 105 (nt h') else 0) := rfl
theorem LB_lamp {h' m v : Int32} (hB : LB C g) : LB C (gu (gu g 106 (nt h') m) 105 (nt h') v) := LB_same hB (fun c' i z => by rw [gu_ne (Or.inl (by omega)), gu_ne (Or.inl (by omega))])
theorem T_lamp {x8 h' m is : Int32} (h : RA n C g S) (hn : n < 20000) (h0 : 0 ≤ h') (hh : h' ≤ g 302 0) (his : is = 1 ∧ h' < g 302 0 ∨ is = 0 ∧ h' = g 302 0) (q : TK n C g Q) : w_L_isTold_240 Q x8 h' m is S := by
  have hI := h.2.1
  obtain ⟨b2, -⟩ := lb_1 h.2.2.2.1
  have hx := h.2.2.1.1
  have no : ∀ {ok v k : Int32}, k = 0 ∨ k = 1 → (is = 0 → True) → ¬ (is = 1 ∧ ok = 1) → (ok = 1 ∧ inr m 1 100000 ∨ ok = 0 ∧ ¬ inr m 1 100000) → w_L_isTold_339 Q is ok v k m h' 1 S := fun {ok v k} hk _ hno hok => by
    unfold w_L_isTold_339 w_L_isTold_366
    rcases his with ⟨e, e2⟩ | ⟨e, e2⟩
    · rcases hok with ⟨o, o2⟩ | ⟨o, o2⟩
      · exact absurd ⟨e, o⟩ hno
      · have er : rLamp g h' m k = (1, 0, g) := by
          unfold rLamp
          rw [if_pos ⟨h0, e2⟩, if_neg o2]
        subst e; subst o
        exact dz_1 hk h.1 hI h.2.2.2.2 hn (RA_go (lS_rf h) (by rw [er]) hI h.2.2.2.1 (v := -2000000) (by rw [er, dva_1]) (fun S2 r2 => kz ⟨fun z => absurd z (by decide), fun _ => ⟨fun _ => ⟨fun _ => q _ S2 r2 rfl rfl, fun z => absurd rfl z⟩, fun z => absurd rfl z⟩⟩))
    · have er : rLamp g h' m k = (3, 0, g) := by
        unfold rLamp
        rw [if_neg (fun z => by have := z.2; lia)]
      subst e
      exact dz_1 hk h.1 hI h.2.2.2.2 hn (RA_go (lS_rf h) (by rw [er]) hI h.2.2.2.1 (v := -3000000) (by rw [er, dva_3]) (fun S2 r2 => kz ⟨fun _ => ⟨fun _ => q _ S2 r2 rfl rfl, fun z => absurd rfl z⟩, fun z => absurd rfl z⟩))
  have go : ∀ {ok : Int32}, (ok = 1 ∧ inr m 1 100000 ∨ ok = 0 ∧ ¬ inr m 1 100000) → w_L_isTold_259 Q x8 h' m is ok S := fun {ok} hok => by
    unfold w_L_isTold_259 w_L_isTold_276 w_L_isTold_317 w_L_isTold_318
    have n318 : ∀ v, ¬ (is = 1 ∧ ok = 1) → ((x8 / 9 - x8 / 9 / 3 * 3 = 0 → w_L_isTold_339 Q is ok v 1 m h' 1 S) ∧ (¬ x8 / 9 - x8 / 9 / 3 * 3 = 0 → w_L_isTold_339 Q is ok v 0 m h' 1 S)) := fun v hno => ⟨fun _ => no (Or.inr rfl) (fun _ => trivial) hno hok, fun _ => no (Or.inl rfl) (fun _ => trivial) hno hok⟩
    refine ⟨fun z => ⟨fun _ => n318 _ (fun y => by rw [z] at y; exact absurd y.1 (by decide)), fun y => absurd z y⟩, fun z => ?_⟩
    have hlt : h' < g 302 0 := his.elim (fun o => o.2) (fun o => absurd o.1 z)
    have e1 : is = 1 := his.elim (fun o => o.1) (fun o => absurd o.1 z)
    rw [(lx_h hx).2 h' h0 (by lia)]
    refine ⟨va (by lia) (by show _ < 7; lia), fun y => absurd y z, fun _ => ⟨fun y => n318 _ (fun w => by rw [y] at w; exact absurd w.2 (by decide)), fun y => ⟨va (by lia) (by show _ < 7; lia), ?_⟩⟩⟩
    have o1 : inr m 1 100000 := hok.elim (fun o => o.2) (fun o => absurd o.1 y)
    have e2 : ok = 1 := hok.elim (fun o => o.1) (fun o => absurd o.1 y)
    intro S51 e51
    have fin : ∀ (v k : Int32), k = 0 ∨ k = 1 → v = (if k = 0 then g 105 (nt h') else 0) → ∀ S50, S50 = su S51 103 (nt (2 + h')) v → w_L_isTold_339 Q is ok (g 105 (nt h')) k m h' 1 S50 := fun v k hk hv S50 e50 => by
      have er : rLamp g h' m k = (0, g 105 (nt h'), gLamp g h' m k) := by
        unfold rLamp
        rw [if_pos ⟨h0, hlt⟩, if_pos o1]
      have hI1 : Iv (gLamp g h' m k) := by have := Iv_lamp (h := h') (m := m) (n := k) hI; rw [er] at this; exact this
      have hL : LR S50 (gLamp g h' m k) := by rw [e50, e51, lamp_mk, ← hv]; exact LR_lamp h.2.2.1 h0 hlt b2
      have hc : clf S S50 := by rw [e50, e51]; exact clf_l (clf_l clf_rf)
      have hB1 : LB C (gLamp g h' m k) := LB_lamp h.2.2.2.1
      unfold w_L_isTold_339 w_L_isTold_366
      subst e1; subst e2
      exact dz_1 hk (RA_c h ⟨hL, hc⟩) hI (RA_b h ⟨hL, hc⟩) hn (RA_go ⟨hL, hc⟩ (by rw [er]) hI1 hB1 (v := g 105 (nt h')) (by rw [er, dva_0]) (fun S2 r2 => kz ⟨fun z => absurd z (by decide), fun _ => ⟨fun z => absurd z (by decide), fun _ => ⟨fun _ => q _ S2 r2 rfl rfl, fun z => absurd rfl z⟩⟩⟩))
    refine ⟨fun w => ⟨va (by lia) (by show _ < 7; lia), fun S50 e50 => ⟨fun _ => fin 0 1 (Or.inr rfl) rfl S50 e50, fun w2 => absurd w w2⟩⟩, fun w => ⟨va (by lia) (by show _ < 7; lia), fun S50 e50 => ⟨fun w2 => absurd w2 w, fun _ => fin _ 0 (Or.inl rfl) rfl S50 e50⟩⟩⟩
  unfold w_L_isTold_240 w_L_isTold_258
  refine ⟨fun z => go (Or.inr ⟨rfl, fun o => by have := o.1; lia⟩), fun z => ⟨fun y => go (Or.inr ⟨rfl, fun o => by have := o.2; lia⟩), fun y => go (Or.inl ⟨rfl, by lia, by lia⟩)⟩⟩
theorem T_film {l a p : Int32} (h : RA n C g S) (hn : n < 20000) (h2 : g 307 0 < 3) (a0 : 0 ≤ a) (q : TK n C g Q) : w_L_isTold_484 Q l a p S := by
  have hI := h.2.1
  obtain ⟨-, -, -, -, -, -, n0, -⟩ := i_n hI
  have hx := h.2.2.1.1
  have no : ¬ (inr l 30 240 ∧ inr a 0 18 ∧ inr p 1 999) → w_L_isTold_525 Q l a p S := fun hno => by
    unfold w_L_isTold_525 w_L_isTold_526 w_L_isTold_604 w_L_isTold_633
    have er : rFilm g l a p = (1, 0, g) := by unfold rFilm; rw [if_neg hno]
    exact ⟨fun _ => dz_2 h.1 hI h.2.2.2.2 hn (RA_go (lS_rf h) (by rw [er]) hI h.2.2.2.1 (v := -2000000) (by rw [er, dva_1]) (fun S2 r2 => kz ⟨fun _ => ⟨fun _ => q _ S2 r2 rfl rfl, fun z => absurd rfl z⟩, fun z => absurd rfl z⟩)), fun z => absurd rfl z⟩
  unfold w_L_isTold_484
  refine ⟨fun z1 => no (fun o => by have := o.1.1; lia), fun z1 => ⟨fun z2 => no (fun o => by have := o.1.2; lia), fun z2 => ⟨fun z3 => no (fun o => by have := o.2.1.2; lia), fun z3 => ⟨fun z4 => no (fun o => by have := o.2.2.1; lia), fun z4 => ⟨fun z5 => no (fun o => by have := o.2.2.2; lia), fun z5 => ?_⟩⟩⟩⟩⟩
  unfold w_L_isTold_526 w_L_isTold_604 w_L_isTold_633
  refine ⟨fun z => absurd z (by decide), fun _ => ?_⟩
  rw [lg_3 hx]
  refine ⟨vd, va (by lia) (by show _ < 24; lia), ?_⟩
  intro S1 e1
  have m1 : S1.1 112 (nt 3) = g 307 0 := by rw [e1, su_ne (Or.inl (by decide))]; exact lg_3 hx
  rw [m1]
  refine ⟨vd, va (by lia) (by show _ < 24; lia), ?_⟩
  intro S2 e2
  have m2 : S2.1 112 (nt 3) = g 307 0 := by rw [e2, su_ne (Or.inl (by decide))]; exact m1
  rw [m2]
  refine ⟨vd, va (by lia) (by show _ < 24; lia), ?_⟩
  intro S3 e3
  have m3 : S3.1 112 (nt 3) = g 307 0 := by rw [e3, su_ne (Or.inl (by decide))]; exact m2
  rw [m3]
  refine ⟨vd, va (by lia) (by show _ < 24; lia), ?_⟩
  intro S4 e4
  have m4 : S4.1 112 (nt 3) = g 307 0 := by rw [e4, su_ne (Or.inl (by decide))]; exact m3
  rw [m4]
  refine ⟨vd, va (by lia) (by show _ < 24; lia), ?_⟩
  intro S5 e5
  have m5 : S5.1 112 (nt 3) = g 307 0 := by rw [e5, su_ne (Or.inl (by decide))]; exact m4
  rw [m5]
  refine ⟨vd, vd, ?_⟩
  intro S6 e6
  have hL : LR S6 (gFilm g l a p) := LR_film h.2.2.1 n0 h2 (by rw [e6, e5, e4, e3, e2, e1])
  have hc : clf S S6 := by rw [e6, e5, e4, e3, e2, e1]; exact clf_l (clf_l (clf_l (clf_l (clf_l (clf_l clf_rf)))))
  have er : rFilm g l a p = (0, g 307 0, gFilm g l a p) := by
    unfold rFilm
    rw [if_pos ⟨⟨by lia, by lia⟩, ⟨by lia, by lia⟩, by lia, by lia⟩, if_neg (by lia)]
  have hI1 : Iv (gFilm g l a p) := by have := Iv_film (l := l) (a := a) (p := p) hI; rw [er] at this; exact this
  refine dz_2 (RA_c h ⟨hL, hc⟩) hI (RA_b h ⟨hL, hc⟩) hn (RA_go ⟨hL, hc⟩ (by rw [er]) hI1 (LB_film h.2.2.2.1 h2 n0) (v := g 307 0) (by rw [er, dva_0]) (fun S2 r2 => kz ⟨fun z => absurd z (by decide), fun _ => ⟨vd, ?_⟩⟩))
  have e307 : gFilm g l a p 307 0 = g 307 0 + 1 := by unfold gFilm; rw [gu_at]
  rw [lg_3 r2.2.2.1.1, e307, show g 307 0 + 1 - 1 = g 307 0 by lia]
  exact ⟨fun _ => q _ S2 r2 rfl rfl, fun z => absurd rfl z⟩
theorem T_key {f h' a b are : Int32} (h : RA n C g S) (hn : n < 20000) (h2 : g 316 0 < 12) (har : are = 1 ∧ (isX g 307 f ∧ isX g 302 h') ∨ are = 0 ∧ ¬ (isX g 307 f ∧ isX g 302 h')) (q : TK n C g Q) : w_L_isTold_921 Q f h' are a b S := by
  have hI := h.2.1
  obtain ⟨-, -, -, -, -, -, -, -, n0, -⟩ := i_n hI
  have hx := h.2.2.1.1
  have no : ∀ ok : Int32, (ok = 1 ∧ (inr a 0 100000 ∧ inr b (a + 1) 110000) ∨ ok = 0 ∧ ¬ (inr a 0 100000 ∧ inr b (a + 1) 110000)) → ¬ (are = 1 ∧ ok = 1) → w_L_isTold_1009 Q f h' are a b ok S := fun ok hok hno => by
    unfold w_L_isTold_1009 w_L_isTold_1049
    rcases har with ⟨e, e2⟩ | ⟨e, e2⟩
    · rcases hok with ⟨o, o2⟩ | ⟨o, o2⟩
      · exact absurd ⟨e, o⟩ hno
      · have er : rKey g f h' a b = (1, 0, g) := by
          unfold rKey
          rw [if_pos e2, if_neg o2]
        subst e; subst o
        exact dz_3 h.1 hI h.2.2.2.2 hn (RA_go (lS_rf h) (by rw [er]) hI h.2.2.2.1 (v := -2000000) (by rw [er, dva_1]) (fun S2 r2 => kz ⟨fun z => absurd z (by decide), fun _ => ⟨fun _ => ⟨fun _ => q _ S2 r2 rfl rfl, fun z => absurd rfl z⟩, fun z => absurd rfl z⟩⟩))
    · have er : rKey g f h' a b = (3, 0, g) := by
        unfold rKey
        rw [if_neg e2]
      subst e
      exact dz_3 h.1 hI h.2.2.2.2 hn (RA_go (lS_rf h) (by rw [er]) hI h.2.2.2.1 (v := -3000000) (by rw [er, dva_3]) (fun S2 r2 => kz ⟨fun _ => ⟨fun _ => q _ S2 r2 rfl rfl, fun z => absurd rfl z⟩, fun z => absurd rfl z⟩))
  have go : ∀ ok : Int32, (ok = 1 ∧ (inr a 0 100000 ∧ inr b (a + 1) 110000) ∨ ok = 0 ∧ ¬ (inr a 0 100000 ∧ inr b (a + 1) 110000)) → w_L_isTold_954 Q f h' are a b ok S := fun ok hok => by
    unfold w_L_isTold_954
    refine ⟨fun z => no ok hok (fun o => by rw [z] at o; exact absurd o.1 (by decide)), fun z => ⟨fun y => no ok hok (fun o => by rw [y] at o; exact absurd o.2 (by decide)), fun y => ?_⟩⟩
    have hfh := (har.resolve_right (fun o => z o.1)).2
    have e1 := (har.resolve_right (fun o => z o.1)).1
    have o1 := (hok.resolve_right (fun o => y o.1)).2
    have e2 := (hok.resolve_right (fun o => y o.1)).1
    rw [lg_4 hx]
    refine ⟨vd, va n0 (by show _ < 36; lia), ?_⟩
    intro S1 s1
    have m1 : S1.1 112 (nt 4) = g 316 0 := by rw [s1, su_ne (Or.inl (by decide))]; exact lg_4 hx
    rw [m1]
    refine ⟨vd, va (by lia) (by show _ < 36; lia), ?_⟩
    intro S2 s2
    have m2 : S2.1 112 (nt 4) = g 316 0 := by rw [s2, su_ne (Or.inl (by decide))]; exact m1
    rw [m2]
    refine ⟨vd, va (by lia) (by show _ < 36; lia), ?_⟩
    intro S3 s3
    have m3 : S3.1 112 (nt 4) = g 316 0 := by rw [s3, su_ne (Or.inl (by decide))]; exact m2
    rw [m3]
    refine ⟨vd, vd, ?_⟩
    intro S4 s4
    have hL : LR S4 (gKey g f h' a b) := LR_key h.2.2.1 n0 h2 (by rw [s4, s3, s2, s1])
    have hc : clf S S4 := by rw [s4, s3, s2, s1]; exact clf_l (clf_l (clf_l (clf_l clf_rf)))
    have er : rKey g f h' a b = (0, g 316 0, gKey g f h' a b) := by
      unfold rKey
      rw [if_pos hfh, if_pos o1, if_neg (by lia)]
    have hI1 : Iv (gKey g f h' a b) := by have := Iv_key (f := f) (h := h') (a := a) (b := b) hI; rw [er] at this; exact this
    unfold w_L_isTold_1009 w_L_isTold_1049
    subst e1; subst e2
    refine dz_3 (RA_c h ⟨hL, hc⟩) hI (RA_b h ⟨hL, hc⟩) hn (RA_go ⟨hL, hc⟩ (by rw [er]) hI1 (LB_key h.2.2.2.1 n0 h2 hfh.1 hfh.2) (v := g 316 0) (by rw [er, dva_0]) (fun S2 r2 => kz ⟨fun z => absurd z (by decide), fun _ => ⟨fun z => absurd z (by decide), fun _ => ⟨vd, ?_⟩⟩⟩))
    have e316 : gKey g f h' a b 316 0 = g 316 0 + 1 := by unfold gKey; rw [gu_at]
    rw [lg_4 r2.2.2.1.1, e316, show g 316 0 + 1 - 1 = g 316 0 by lia]
    exact ⟨fun _ => q _ S2 r2 rfl rfl, fun z => absurd rfl z⟩
  unfold w_L_isTold_921 w_L_isTold_953
  refine ⟨fun z1 => go 0 (Or.inr ⟨rfl, fun o => by have := o.1.1; lia⟩), fun z1 => ⟨fun z2 => go 0 (Or.inr ⟨rfl, fun o => by have := o.1.2; lia⟩), fun z2 => ⟨fun z3 => go 0 (Or.inr ⟨rfl, fun o => by have := o.2.1; lia⟩), fun z3 => ⟨fun z4 => go 0 (Or.inr ⟨rfl, fun o => by have := o.2.2; lia⟩), fun z4 => go 1 (Or.inl ⟨rfl, ⟨by lia, by lia⟩, by lia, by lia⟩)⟩⟩⟩⟩
theorem T_spread {m v y0 : Int32} (h : RA n C g S) (hn : n < 20000) (hm : 0 ≤ m) (hv : v = g 301 0) (hy : y0 = if m < 61 then m else v) (q : TK n C g Q) : w_L_isTold_1094 Q m v y0 1 S := by
  have hI := h.2.1
  have hx := h.2.2.1.1
  unfold w_L_isTold_1094 w_L_isTold_1120
  refine ⟨vd, ?_⟩
  intro S1 s1
  have hL : LR S1 (gu g 301 0 y0) := by rw [s1]; exact LR_spr h.2.2.1
  have hc : clf S S1 := by rw [s1]; exact clf_l clf_rf
  by_cases z : m < 61
  · rw [if_pos z] at hy
    subst hy
    have er : rSpread g y0 = (0, g 301 0, gu g 301 0 y0) := by unfold rSpread; rw [if_pos ⟨hm, by lia⟩]
    have hI1 : Iv (gu g 301 0 y0) := by have := Iv_spread (m := y0) hI; rw [er] at this; exact this
    exact dz_4 (RA_c h ⟨hL, hc⟩) hI (RA_b h ⟨hL, hc⟩) hn (RA_go ⟨hL, hc⟩ (by rw [er]) hI1 (LB_same h.2.2.2.1 (fun c i hc => gu_ne (Or.inl (by omega)))) (v := g 301 0) (by rw [er, dva_0]) (fun S2 r2 => kz ⟨fun y => absurd y (by lia), fun _ => ⟨fun _ => q _ S2 r2 rfl rfl, fun y => absurd hv.symm y⟩⟩))
  · rw [if_neg z, hv] at hy
    subst hy
    rw [gu_same] at hL
    have er : rSpread g m = (1, 0, g) := by unfold rSpread; rw [if_neg (fun o => by have := o.2; lia)]
    exact dz_4 (RA_c h ⟨hL, hc⟩) hI (RA_b h ⟨hL, hc⟩) hn (RA_go ⟨hL, hc⟩ (by rw [er]) hI h.2.2.2.1 (v := -2000000) (by rw [er, dva_1]) (fun S2 r2 => kz ⟨fun _ => ⟨fun _ => q _ S2 r2 rfl rfl, fun y => absurd rfl y⟩, fun y => absurd (by lia) y⟩))
theorem T_show {f h' t are ok : Int32} (h : RA n C g S) (hn : n < 20000) (h2 : g 321 0 < 5) (har : are = 1 ∧ (isX g 307 f ∧ isX g 302 h') ∨ are = 0 ∧ ¬ (isX g 307 f ∧ isX g 302 h')) (hok : ok = 1 ∧ inr t (g 300 0 + 1) 100000 ∨ ok = 0 ∧ ¬ inr t (g 300 0 + 1) 100000) (q : TK n C g Q) : ((are = 0 → w_L_isTold_1253 Q f h' are t ok S) ∧ (¬ are = 0 → ((ok = 0 → w_L_isTold_1253 Q f h' are t ok S) ∧ (¬ ok = 0 → (w_L_fits f h' t S (fun k15 v14 S13 => (k15 = 0 → ((v14 = 0 → w_L_isTold_1254 Q f h' are t ok 1 S13) ∧ (¬ v14 = 0 → w_L_isTold_1253 Q f h' are t ok S13))) ∧ (¬ k15 = 0 → Q k15 0 S13))))))) := by
  have hI := h.2.1
  obtain ⟨m0, m1, -, -, -, -, -, -, -, -, n0, -⟩ := i_n hI
  have hx := h.2.2.1.1
  have no : ¬ (are = 1 ∧ ok = 1 ∧ rsn g f h' t = 0) → w_L_isTold_1253 Q f h' are t ok S := fun hno => by
    unfold w_L_isTold_1253 w_L_isTold_1254 w_L_isTold_1294 w_L_isTold_1343
    refine ⟨fun _ => ?_, fun z => absurd rfl z⟩
    rcases har with ⟨e, e2⟩ | ⟨e, e2⟩
    · rcases hok with ⟨o, o2⟩ | ⟨o, o2⟩
      · have er : rShow g f h' t = (2, 0, g) := by
          unfold rShow
          rw [if_pos e2, if_pos o2, if_neg (by lia), if_neg (fun z => hno ⟨e, o, z⟩)]
        subst e; subst o
        exact dz_5 h.1 hI h.2.2.2.2 hn (RA_go (lS_rf h) (by rw [er]) hI h.2.2.2.1 (v := -1000000) (by rw [er, dva_2]) (fun S2 r2 => kz ⟨fun z => absurd z (by decide), fun _ => ⟨fun z => absurd z (by decide), fun _ => ⟨fun _ => ⟨fun _ => q _ S2 r2 rfl rfl, fun z => absurd rfl z⟩, fun z => absurd rfl z⟩⟩⟩))
      · have er : rShow g f h' t = (1, 0, g) := by
          unfold rShow
          rw [if_pos e2, if_neg o2]
        subst e; subst o
        exact dz_5 h.1 hI h.2.2.2.2 hn (RA_go (lS_rf h) (by rw [er]) hI h.2.2.2.1 (v := -2000000) (by rw [er, dva_1]) (fun S2 r2 => kz ⟨fun z => absurd z (by decide), fun _ => ⟨fun _ => ⟨fun _ => q _ S2 r2 rfl rfl, fun z => absurd rfl z⟩, fun z => absurd rfl z⟩⟩))
    · have er : rShow g f h' t = (3, 0, g) := by
        unfold rShow
        rw [if_neg e2]
      subst e
      exact dz_5 h.1 hI h.2.2.2.2 hn (RA_go (lS_rf h) (by rw [er]) hI h.2.2.2.1 (v := -3000000) (by rw [er, dva_3]) (fun S2 r2 => kz ⟨fun _ => ⟨fun _ => q _ S2 r2 rfl rfl, fun z => absurd rfl z⟩, fun z => absurd rfl z⟩))
  refine ⟨fun z => no (fun o => by rw [z] at o; exact absurd o.1 (by decide)), fun z => ⟨fun y => no (fun o => by rw [y] at o; exact absurd o.2.1 (by decide)), fun y => ?_⟩⟩
  have hfh := (har.resolve_right (fun o => z o.1)).2
  have e1 := (har.resolve_right (fun o => z o.1)).1
  have o1 := (hok.resolve_right (fun o => y o.1)).2
  have e2 := (hok.resolve_right (fun o => y o.1)).1
  refine Lfits hx hI.1 h.2.2.2.1 hfh.1 hfh.2 ⟨by have := o1.1; lia, by have := o1.2; lia⟩ (kz ⟨fun w => ?_, fun w => no (fun o => w o.2.2)⟩)
  unfold w_L_isTold_1254 w_L_isTold_1294 w_L_isTold_1343
  refine ⟨fun z => absurd z (by decide), fun _ => ?_⟩
  rw [lg_5 hx]
  refine ⟨vd, va n0 (by show _ < 11; lia), ?_⟩
  intro S1 s1
  have m1 : S1.1 112 (nt 5) = g 321 0 := by rw [s1, su_ne (Or.inl (by decide))]; exact lg_5 hx
  rw [m1]
  refine ⟨vd, va (by lia) (by show _ < 11; lia), ?_⟩
  intro S2 s2
  have m2 : S2.1 112 (nt 5) = g 321 0 := by rw [s2, su_ne (Or.inl (by decide))]; exact m1
  rw [m2]
  refine ⟨vd, vd, ?_⟩
  intro S3 s3
  have hL : LR S3 (gShow g f h' t) := LR_show h.2.2.1 hI.1 n0 h2 (by rw [s3, s2, s1])
  have hc : clf S S3 := by rw [s3, s2, s1]; exact clf_l (clf_l (clf_l clf_rf))
  have er : rShow g f h' t = (0, g 321 0, gShow g f h' t) := by
    unfold rShow
    rw [if_pos hfh, if_pos o1, if_neg (by lia), if_pos w]
  have hI1 : Iv (gShow g f h' t) := by have := Iv_show (f := f) (h := h') (t := t) hI; rw [er] at this; exact this
  subst e1; subst e2
  refine dz_5 (RA_c h ⟨hL, hc⟩) hI (RA_b h ⟨hL, hc⟩) hn (RA_go ⟨hL, hc⟩ (by rw [er]) hI1 (LB_show h.2.2.2.1 hI.1 n0 h2) (v := g 321 0) (by rw [er, dva_0]) (fun S2 r2 => kz ⟨fun z => absurd z (by decide), fun _ => ⟨fun z => absurd z (by decide), fun _ => ⟨fun z => absurd z (by decide), fun _ => ⟨vd, ?_⟩⟩⟩⟩))
  have e321 : gShow g f h' t 321 0 = g 321 0 + 1 := by unfold gShow; rw [gu_at]
  rw [lg_5 r2.2.2.1.1, e321, show g 321 0 + 1 - 1 = g 321 0 by lia]
  exact ⟨fun _ => q _ S2 r2 rfl rfl, fun z => absurd rfl z⟩
theorem T_first {f h' t are ok : Int32} (h : RA n C g S) (hn : n < 20000) (t0 : 0 ≤ t) (t1 : t ≤ 110000) (har : are = 1 ∧ (isX g 307 f ∧ isX g 302 h') ∨ are = 0 ∧ ¬ (isX g 307 f ∧ isX g 302 h')) (hok : ok = 1 ∧ inr t (g 300 0 + 1) 100000 ∨ ok = 0 ∧ ¬ inr t (g 300 0 + 1) 100000) (q : TK n C g Q) : ∃ n9, w_L_isTold_1359 Q n9 f h' are t ok (-1) t S := by
  have hI := h.2.1
  have hx := h.2.2.1.1
  have fin : ∀ x : Int32, (are = 1 ∧ ok = 1 → x = fst g f h' 10081 t) → w_L_isTold_1426 Q f h' are t ok x S := fun x hxx => by
    unfold w_L_isTold_1426 w_L_isTold_1462
    rcases har with ⟨e, e2⟩ | ⟨e, e2⟩
    · rcases hok with ⟨o, o2⟩ | ⟨o, o2⟩
      · have er : rFirst g f h' t = (0, x, g) := by
          unfold rFirst
          rw [if_pos e2, if_pos o2, hxx ⟨e, o⟩]
        subst e; subst o
        exact dz_17 h.1 hI h.2.2.2.2 hn (RA_go (lS_rf h) (by rw [er]) hI h.2.2.2.1 (v := x) (by rw [er, dva_0]) (fun S2 r2 => kz ⟨fun z => absurd z (by decide), fun _ => ⟨fun z => absurd z (by decide), fun _ => ⟨fun _ => q _ S2 r2 rfl rfl, fun z => absurd rfl z⟩⟩⟩))
      · have er : rFirst g f h' t = (1, 0, g) := by
          unfold rFirst
          rw [if_pos e2, if_neg o2]
        subst e; subst o
        exact dz_17 h.1 hI h.2.2.2.2 hn (RA_go (lS_rf h) (by rw [er]) hI h.2.2.2.1 (v := -2000000) (by rw [er, dva_1]) (fun S2 r2 => kz ⟨fun z => absurd z (by decide), fun _ => ⟨fun _ => ⟨fun _ => q _ S2 r2 rfl rfl, fun z => absurd rfl z⟩, fun z => absurd rfl z⟩⟩))
    · have er : rFirst g f h' t = (3, 0, g) := by
        unfold rFirst
        rw [if_neg e2]
      subst e
      exact dz_17 h.1 hI h.2.2.2.2 hn (RA_go (lS_rf h) (by rw [er]) hI h.2.2.2.1 (v := -3000000) (by rw [er, dva_3]) (fun S2 r2 => kz ⟨fun _ => ⟨fun _ => q _ S2 r2 rfl rfl, fun z => absurd rfl z⟩, fun z => absurd rfl z⟩))
  by_cases hb : are = 1 ∧ ok = 1
  · obtain ⟨e, o⟩ := hb
    have e2 := (har.resolve_right (fun z => by rw [e] at z; exact absurd z.1 (by decide))).2
    have o2 := (hok.resolve_right (fun z => by rw [o] at z; exact absurd z.1 (by decide))).2
    -- found: one more turn, and out
    have out : ∀ (m : Nat) (x y : Int32), 0 ≤ x → x = fst g f h' 10081 t → w_L_isTold_1359 Q (m + 1) f h' are t ok x y S := fun m x y x0 hxx => by
      rw [w_L_isTold_1359]
      exact ⟨fun _ => fin x (fun _ => hxx), fun _ => ⟨fun _ => fin x (fun _ => hxx), fun _ => ⟨fun _ => fin x (fun _ => hxx), fun z => absurd x0 z⟩⟩⟩
    have L : ∀ (d : Nat) (x : Int32), d ≤ 10081 → t ≤ x → x + nI d = t + 10081 → fst g f h' d x = fst g f h' 10081 t → w_L_isTold_1359 Q (d + 2) f h' are t ok (-1) x S := by
      intro d
      induction d with
      | zero =>
        intro x d1 x0 x1 hf
        have ex : x = t + 10081 := by rw [← x1]; show x = x + 0; lia
        rw [w_L_isTold_1359]
        exact ⟨fun _ => fin (-1) (fun _ => hf), fun z => absurd (by lia) z⟩
      | succ d ih =>
        intro x d1 x0 x1 hf
        have e5 : (nI (d + 1)).toInt = (d + 1 : Nat) := nI_toInt (by omega)
        have e6 : 1 ≤ nI (d + 1) := by rw [z_le, e5]; show (1 : Int) ≤ _; omega
        have e7 : nI (d + 1) ≤ 10081 := by rw [z_le, e5]; show _ ≤ (10081 : Int); omega
        have hs : fst g f h' (d + 1) x = if 100000 < x then -1 else if rsn g f h' x = 0 then x else fst g f h' d (x + 1) := rfl
        rw [hs] at hf
        rw [w_L_isTold_1359]
        refine ⟨fun z => absurd z (by lia), fun _ => ⟨fun z => ?_, fun z => ?_⟩⟩
        · rw [if_pos (by lia)] at hf
          exact fin (-1) (fun _ => hf)
        · rw [if_neg (by lia)] at hf
          refine ⟨fun y => absurd y (by decide), fun _ => ⟨fun y => by rw [e] at y; exact absurd y (by decide), fun _ => ⟨fun y => by rw [o] at y; exact absurd y (by decide), fun _ => Lfits hx hI.1 h.2.2.2.1 e2.1 e2.2 ⟨by lia, by lia⟩ (kz ⟨fun w => ?_, fun w => ?_⟩)⟩⟩⟩
          · rw [if_pos w] at hf
            unfold w_L_isTold_1418
            exact out (d + 1) x (x + 1) (by lia) hf
          · rw [if_neg w] at hf
            unfold w_L_isTold_1418
            exact ih (x + 1) (by omega) (by lia) (by rw [nI1] at x1; lia) hf
    exact ⟨10083, L 10081 t (Nat.le_refl _) (by lia) rfl rfl⟩
  · refine ⟨1, ?_⟩
    rw [w_L_isTold_1359]
    have f1 := fin (-1) (fun z => absurd z hb)
    refine ⟨fun _ => f1, fun _ => ⟨fun _ => f1, fun _ => ⟨fun _ => f1, fun _ => ⟨fun _ => f1, fun z => ⟨fun _ => f1, fun y => ?_⟩⟩⟩⟩⟩
    exact absurd ⟨(har.resolve_right (fun o => z o.1)).1, (hok.resolve_right (fun o => y o.1)).1⟩ hb
end T3
