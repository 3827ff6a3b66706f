/-! the law's beginning: a new object, its arrays, and on -/
theorem g56 : Cond.classLink RL 9 RX7 ∈ gW := gm 56 (by decide +kernel) (by decide +kernel)
theorem g57 : Cond.instantiable RX7 8 ∈ gW := gm 57 (by decide +kernel) (by decide +kernel)
theorem g58 : Cond.methodLink RL 157 yX7_init ∈ gW := gm 58 (by decide +kernel) (by decide +kernel)
theorem g59 : Cond.instanceMethod yX7_init ∈ gW := gm 59 (by decide +kernel) (by decide +kernel)
theorem g60 : Cond.code yX7_init cX7_init 1 none ∈ gW := gm 60 (by decide +kernel) (by decide +kernel)
section LB
variable {D : va_G} {cI cZ cL cO : ClassId} {H0 : Heap} {B E M : Nat}
variable {p : Program} {l : Launch} {e : Env} {s : State} {m : MethodId} {args : Array Value} {below : List Frame} {meth : Method} {c : Code} {Q : State → Prop} {ad0 : Nat → Nat}
theorem fdP_01 {S : Sg} (h : AE 13 S) : fdP0.map (dv S 0) = fdP1.map (dv S 0) := by
  have r : ∀ j, j < 6 → dv S 0 (2, j, 1) = .ref (enc 1 j) := fun j hj => by
    show rf (S.1 j 0) 1 = _
    rw [h.2.2.2.1 j hj, rf_pos (nI_pos (by omega)), nt_nI (by omega)]
  unfold fdP0 fdP1
  simp only [List.map_cons, List.map_nil, r 0 (by decide), r 1 (by decide), r 2 (by decide), r 3 (by decide), r 4 (by decide), r 5 (by decide)]
  rfl
theorem lk_01 {k : Nat} (h0 : k ≠ 0) : tb0.lookup k = tb1.lookup k := by
  have a : (k == 0) = false := beq_eq_false_iff_ne.mpr h0
  simp only [tb0, tb1, List.lookup, a]
theorem hct_01 {S : Sg} (h : AE 13 S) : ∀ id, dm S id → ct (XX D cI cZ cL cO H0 B E M tb0) S id = ct (XX D cI cZ cL cO H0 B E M tb1) S id := by
  intro id hd
  unfold dm at hd
  have n1 : nt 1 = 1 := by decide
  unfold ct
  by_cases a : id % 64 = 0
  · rw [if_neg (by omega), a, h.1, if_pos rfl, n1] at hd
    have hi : id / 64 = 0 := by omega
    rw [a, hi, show (xT (XX D cI cZ cL cO H0 B E M tb0)).lookup 0 = some (8, fdP0) from rfl, show (xT (XX D cI cZ cL cO H0 B E M tb1)).lookup 0 = some (8, fdP1) from rfl]
    exact congrArg (fun z => (Sum.inr (8, z) : va_E)) (fdP_01 h)
  · rw [show (xT (XX D cI cZ cL cO H0 B E M tb0)) = tb0 from rfl, show (xT (XX D cI cZ cL cO H0 B E M tb1)) = tb1 from rfl, lk_01 a]
    rfl
theorem law_begin (hl : l.stackTraces = false) (C : Cn (XX D cI cZ cL cO H0 B E M tb0) k0 p l room_1 s m meth c cL_law RL 17 16 708) (kk : ∀ {T : Sg}, AE 13 T → V (XX D cI cZ cL cO H0 B E M tb1) p l e room_1 s m args below meth c 17 Q Z0 ad0 T 66 [(0, Value.ref 63), (1, Value.ref (enc 0 0)), (2, Value.ref (enc 13 3)), (3, Value.ref (enc 13 4)), (4, Value.ref (enc 13 5)), (5, Value.ref (enc 13 6)), (6, Value.ref (enc 13 7)), (7, Value.ref (enc 13 8)), (8, Value.ref (enc 13 9)), (9, Value.ref (enc 13 10)), (10, Value.ref (enc 13 11)), (11, Value.ref (enc 13 12))] []) : V (XX D cI cZ cL cO H0 B E M tb0) p l e room_1 s m args below meth c 17 Q Z0 ad0 Z0 0 [(0, Value.ref 63)] [] := by
  refine V_newO (pc := 0) (k := 0) (fds := fdP0) C rfl tb0_g CF_X7 rfl (by decide) (by decide +kernel) (by decide +kernel) rfl g56 g57 g33 dL_law_0 (A := True) ⟨⟨by decide, by decide⟩, trivial⟩ (fun _ => ?_)
  rw [show nt (Z0.1 10 0) = 0 by decide]
  have h := CI_0
  generalize nu Z0 0 8 fdP0 = S1 at h ⊢
  refine V_dup (pc := 3) C dL_law_3 rfl ?_
  refine V_callI (pc := 4) C (ct_X7_init (Qa := fun k _ S => k = 0 ∧ CE S) rfl hl (init_c h (fun T h => ⟨rfl, h⟩))) g58 g59 g60 g33 rfl ⟨by decide, by decide, pl_X7_init⟩ ⟨by decide, by decide⟩ (rest := [Value.ref (enc 0 0)]) rfl (le8 rfl) dL_law_4 (fun v2 S2 h2 => ?_) (fun k9 S9 hk h => absurd h.1 (by omega))
  refine V_st (st' := [Value.ref (enc 0 0)]) rfl ?_
  refine V_astore_n (pc := 7) C (i := 1) (lv' := [(1, Value.ref (enc 0 0)), (0, Value.ref 63)]) dL_law_7 rfl (by decide) rfl ?_
  have h3 := AE_3 h2.2
  clear h2 h
  obtain ⟨b3, h4⟩ := ae_go (j := 3) (by decide) (by decide) h3
  refine V_bipush (pc := 8) C (v := 7) dL_law_8 rfl ?_
  refine V_newmI (pc := 10) C rfl tb0_g (j := 3) (by decide) rfl rfl g494 dL_law_10 (A := True) ⟨b3, trivial⟩ (fun _ => ?_)
  generalize nmd S2 3 = S3 at h4 ⊢
  refine V_astore_n (pc := 12) C (i := 2) (lv' := [(2, Value.ref (enc 13 3)), (1, Value.ref (enc 0 0)), (0, Value.ref 63)]) dL_law_12 rfl (by decide) rfl ?_
  clear b3 h3
  obtain ⟨b4, h5⟩ := ae_go (j := 4) (by decide) (by decide) h4
  refine V_bipush (pc := 13) C (v := 24) dL_law_13 rfl ?_
  refine V_newmI (pc := 15) C rfl tb0_g (j := 4) (by decide) rfl rfl g494 dL_law_15 (A := True) ⟨b4, trivial⟩ (fun _ => ?_)
  generalize nmd S3 4 = S4 at h5 ⊢
  refine V_astore_n (pc := 17) C (i := 3) (lv' := [(3, Value.ref (enc 13 4)), (2, Value.ref (enc 13 3)), (1, Value.ref (enc 0 0)), (0, Value.ref 63)]) dL_law_17 rfl (by decide) rfl ?_
  clear b4 h4
  obtain ⟨b5, h6⟩ := ae_go (j := 5) (by decide) (by decide) h5
  refine V_bipush (pc := 18) C (v := 36) dL_law_18 rfl ?_
  refine V_newmI (pc := 20) C rfl tb0_g (j := 5) (by decide) rfl rfl g494 dL_law_20 (A := True) ⟨b5, trivial⟩ (fun _ => ?_)
  generalize nmd S4 5 = S5 at h6 ⊢
  refine V_astore (pc := 22) C (i := 4) (lv' := [(4, Value.ref (enc 13 5)), (3, Value.ref (enc 13 4)), (2, Value.ref (enc 13 3)), (1, Value.ref (enc 0 0)), (0, Value.ref 63)]) dL_law_22 (by decide) rfl ?_
  clear b5 h5
  obtain ⟨b6, h7⟩ := ae_go (j := 6) (by decide) (by decide) h6
  refine V_bipush (pc := 24) C (v := 11) dL_law_24 rfl ?_
  refine V_newmI (pc := 26) C rfl tb0_g (j := 6) (by decide) rfl rfl g494 dL_law_26 (A := True) ⟨b6, trivial⟩ (fun _ => ?_)
  generalize nmd S5 6 = S6 at h7 ⊢
  refine V_astore (pc := 28) C (i := 5) (lv' := [(5, Value.ref (enc 13 6)), (4, Value.ref (enc 13 5)), (3, Value.ref (enc 13 4)), (2, Value.ref (enc 13 3)), (1, Value.ref (enc 0 0)), (0, Value.ref 63)]) dL_law_28 (by decide) rfl ?_
  clear b6 h6
  obtain ⟨b7, h8⟩ := ae_go (j := 7) (by decide) (by decide) h7
  refine V_bipush (pc := 30) C (v := 60) dL_law_30 rfl ?_
  refine V_newmI (pc := 32) C rfl tb0_g (j := 7) (by decide) rfl rfl g494 dL_law_32 (A := True) ⟨b7, trivial⟩ (fun _ => ?_)
  generalize nmd S6 7 = S7 at h8 ⊢
  refine V_astore (pc := 34) C (i := 6) (lv' := [(6, Value.ref (enc 13 7)), (5, Value.ref (enc 13 6)), (4, Value.ref (enc 13 5)), (3, Value.ref (enc 13 4)), (2, Value.ref (enc 13 3)), (1, Value.ref (enc 0 0)), (0, Value.ref 63)]) dL_law_34 (by decide) rfl ?_
  clear b7 h7
  obtain ⟨b8, h9⟩ := ae_go (j := 8) (by decide) (by decide) h8
  refine V_bipush (pc := 36) C (v := 64) dL_law_36 rfl ?_
  refine V_newmI (pc := 38) C rfl tb0_g (j := 8) (by decide) rfl rfl g494 dL_law_38 (A := True) ⟨b8, trivial⟩ (fun _ => ?_)
  generalize nmd S7 8 = S8 at h9 ⊢
  refine V_astore (pc := 40) C (i := 7) (lv' := [(7, Value.ref (enc 13 8)), (6, Value.ref (enc 13 7)), (5, Value.ref (enc 13 6)), (4, Value.ref (enc 13 5)), (3, Value.ref (enc 13 4)), (2, Value.ref (enc 13 3)), (1, Value.ref (enc 0 0)), (0, Value.ref 63)]) dL_law_40 (by decide) rfl ?_
  clear b8 h8
  obtain ⟨b9, h10⟩ := ae_go (j := 9) (by decide) (by decide) h9
  refine V_bipush (pc := 42) C (v := 64) dL_law_42 rfl ?_
  refine V_newmI (pc := 44) C rfl tb0_g (j := 9) (by decide) rfl rfl g494 dL_law_44 (A := True) ⟨b9, trivial⟩ (fun _ => ?_)
  generalize nmd S8 9 = S9 at h10 ⊢
  refine V_astore (pc := 46) C (i := 8) (lv' := [(8, Value.ref (enc 13 9)), (7, Value.ref (enc 13 8)), (6, Value.ref (enc 13 7)), (5, Value.ref (enc 13 6)), (4, Value.ref (enc 13 5)), (3, Value.ref (enc 13 4)), (2, Value.ref (enc 13 3)), (1, Value.ref (enc 0 0)), (0, Value.ref 63)]) dL_law_46 (by decide) rfl ?_
  clear b9 h9
  obtain ⟨b10, h11⟩ := ae_go (j := 10) (by decide) (by decide) h10
  refine V_bipush (pc := 48) C (v := 48) dL_law_48 rfl ?_
  refine V_newmI (pc := 50) C rfl tb0_g (j := 10) (by decide) rfl rfl g494 dL_law_50 (A := True) ⟨b10, trivial⟩ (fun _ => ?_)
  generalize nmd S9 10 = S10 at h11 ⊢
  refine V_astore (pc := 52) C (i := 9) (lv' := [(9, Value.ref (enc 13 10)), (8, Value.ref (enc 13 9)), (7, Value.ref (enc 13 8)), (6, Value.ref (enc 13 7)), (5, Value.ref (enc 13 6)), (4, Value.ref (enc 13 5)), (3, Value.ref (enc 13 4)), (2, Value.ref (enc 13 3)), (1, Value.ref (enc 0 0)), (0, Value.ref 63)]) dL_law_52 (by decide) rfl ?_
  clear b10 h10
  obtain ⟨b11, h12⟩ := ae_go (j := 11) (by decide) (by decide) h11
  refine V_bipush (pc := 54) C (v := 50) dL_law_54 rfl ?_
  refine V_newmI (pc := 56) C rfl tb0_g (j := 11) (by decide) rfl rfl g494 dL_law_56 (A := True) ⟨b11, trivial⟩ (fun _ => ?_)
  generalize nmd S10 11 = S11 at h12 ⊢
  refine V_astore (pc := 58) C (i := 10) (lv' := [(10, Value.ref (enc 13 11)), (9, Value.ref (enc 13 10)), (8, Value.ref (enc 13 9)), (7, Value.ref (enc 13 8)), (6, Value.ref (enc 13 7)), (5, Value.ref (enc 13 6)), (4, Value.ref (enc 13 5)), (3, Value.ref (enc 13 4)), (2, Value.ref (enc 13 3)), (1, Value.ref (enc 0 0)), (0, Value.ref 63)]) dL_law_58 (by decide) rfl ?_
  clear b11 h11
  obtain ⟨b12, h13⟩ := ae_go (j := 12) (by decide) (by decide) h12
  refine V_bipush (pc := 60) C (v := 8) dL_law_60 rfl ?_
  refine V_newmI (pc := 62) C rfl tb0_g (j := 12) (by decide) rfl rfl g494 dL_law_62 (A := True) ⟨b12, trivial⟩ (fun _ => ?_)
  generalize nmd S11 12 = S12 at h13 ⊢
  refine V_astore (pc := 64) C (i := 11) (lv' := [(11, Value.ref (enc 13 12)), (10, Value.ref (enc 13 11)), (9, Value.ref (enc 13 10)), (8, Value.ref (enc 13 9)), (7, Value.ref (enc 13 8)), (6, Value.ref (enc 13 7)), (5, Value.ref (enc 13 6)), (4, Value.ref (enc 13 5)), (3, Value.ref (enc 13 4)), (2, Value.ref (enc 13 3)), (1, Value.ref (enc 0 0)), (0, Value.ref 63)]) dL_law_64 (by decide) rfl ?_
  clear b12 h12
  refine V_tb (hct_01 h13) ?_
  refine V_sub [11, 10, 9, 8, 7, 6, 5, 4, 3, 2, 1, 0] rfl ?_
  exact kk h13
end LB
