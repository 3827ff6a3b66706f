/-! the law's beginning: both objects, the place for an answer, and on to the loop -/
theorem g84 : Cond.classLink RL 8 RX7 ∈ gW := gm 84 (by decide +kernel) (by decide +kernel)
theorem g85 : Cond.instantiable RX7 8 ∈ gW := gm 85 (by decide +kernel) (by decide +kernel)
theorem g86 : Cond.methodLink RL 112 yX7_init ∈ gW := gm 86 (by decide +kernel) (by decide +kernel)
theorem g87 : Cond.instanceMethod yX7_init ∈ gW := gm 87 (by decide +kernel) (by decide +kernel)
theorem g88 : Cond.code yX7_init cX7_init 1 none ∈ gW := gm 88 (by decide +kernel) (by decide +kernel)
theorem g972 : Cond.classLink RL 113 RX8 ∈ gW := gm 972 (by decide +kernel) (by decide +kernel)
theorem g973 : Cond.instantiable RX8 43 ∈ gW := gm 973 (by decide +kernel) (by decide +kernel)
theorem g974 : Cond.methodLink RL 115 yX8_init ∈ gW := gm 974 (by decide +kernel) (by decide +kernel)
theorem g975 : Cond.instanceMethod yX8_init ∈ gW := gm 975 (by decide +kernel) (by decide +kernel)
theorem g976 : Cond.code yX8_init cX8_init 2 none ∈ gW := gm 976 (by decide +kernel) (by decide +kernel)
theorem g1351 : Cond.arrayClass .long ∈ gW := gm 1351 (by decide +kernel) (by decide +kernel)
section LB
variable {D : va_G} {cI cZ cL cO : ClassId} {H0 : Heap} {B E M : Nat}
variable {p : Program} {l : Launch} {e : Env} {s : State} {m : MethodId} {args : Array Value} {below : List Frame} {meth : Method} {c : Code} {Q : State → Prop} {ad0 : Nat → Nat}
theorem fdP_01 {S : Sg} (h : FE S) : fdP0.map (dv S 0) = fdP1.map (dv S 0) := by
  have r : ∀ j, j < 6 → dv S 0 (2, j, 1) = .ref (enc 1 j) := fun j hj => by
    show rf (S.1 j 0) 1 = _
    rw [h.2.2.2.1 j hj, rf_pos (nI_pos (by omega)), nt_nI (by omega)]
  unfold fdP0 fdP1
  simp only [List.map_cons, List.map_nil, r 0 (by decide), r 1 (by decide), r 2 (by decide), r 3 (by decide), r 4 (by decide), r 5 (by decide)]
  rfl
theorem fdM_01 {S : Sg} (h : FE S) : fdM0.map (dv S 0) = fdM1.map (dv S 0) := by
  unfold fdM0 fdM1
  rw [List.map_map, List.map_map]
  refine List.map_congr_left fun i hi => ?_
  have hi := List.mem_range.mp hi
  show dv S 0 (if mSc i then (0, 300 + i, 0) else (2, 200 + i, 13)) = dv S 0 (if mSc i then (0, 300 + i, 0) else (1, enc 13 i, 0))
  by_cases hm : mSc i = true
  · rw [if_pos hm, if_pos hm]
  · rw [if_neg hm, if_neg hm]
    have hm2 : mSc i = false := by revert hm; cases mSc i <;> simp
    show rf (S.1 (200 + i) 0) 13 = Value.ref (enc 13 i)
    rw [h.2.2.2.2.2.2.1 i hi hm2, rf_pos (nI_pos (by omega)), nt_nI (by omega)]
theorem lk_01 {k : Nat} (h0 : k ≠ 0) (h12 : k ≠ 12) : tb0.lookup k = tb1.lookup k := by
  have a : (k == 0) = false := beq_eq_false_iff_ne.mpr h0
  have b : (k == 12) = false := beq_eq_false_iff_ne.mpr h12
  simp only [tb0, tb1, List.lookup, a, b]
theorem hct_01 {S : Sg} (h : FE S) : ∀ id, dm S id → ct (XX D cI cZ cL cO H0 B E M tb0) S id = ct (XX D cI cZ cL cO H0 B E M tb1) S id := by
  intro id hd
  unfold dm at hd
  have n1 : nt 1 = 1 := by decide
  unfold ct
  by_cases a : id % 64 = 0
  · rw [if_neg (by omega), a, h.1, if_pos rfl, n1] at hd
    have hi : id / 64 = 0 := by omega
    rw [a, hi, show (xT (XX D cI cZ cL cO H0 B E M tb0)).lookup 0 = some (8, fdP0) from rfl, show (xT (XX D cI cZ cL cO H0 B E M tb1)).lookup 0 = some (8, fdP1) from rfl]
    exact congrArg (fun z => (Sum.inr (8, z) : va_E)) (fdP_01 h)
  · by_cases b : id % 64 = 12
    · rw [if_neg (by omega), b, h.1, if_neg (by decide), if_neg (by decide), if_pos rfl, n1] at hd
      have hi : id / 64 = 0 := by omega
      rw [b, hi, show (xT (XX D cI cZ cL cO H0 B E M tb0)).lookup 12 = some (9, fdM0) from rfl, show (xT (XX D cI cZ cL cO H0 B E M tb1)).lookup 12 = some (9, fdM1) from rfl]
      exact congrArg (fun z => (Sum.inr (9, z) : va_E)) (fdM_01 h)
    · rw [show (xT (XX D cI cZ cL cO H0 B E M tb0)) = tb0 from rfl, show (xT (XX D cI cZ cL cO H0 B E M tb1)) = tb1 from rfl, lk_01 a b]
      rfl
theorem law_begin (hl : l.stackTraces = false) (C : Cn (XX D cI cZ cL cO H0 B E M tb0) k0 p l room_1 s m meth c cL_law RL 7 15 584) (kk : ∀ {T : Sg}, Rel 0 T → V (XX D cI cZ cL cO H0 B E M tb1) p l e room_1 s m args below meth c 7 Q Z0 ad0 T 23 [(0, Value.ref 63), (1, Value.ref (enc 0 0)), (2, Value.ref (enc 12 0)), (3, Value.ref (enc 14 0)), (4, Value.int 0)] []) : V (XX D cI cZ cL cO H0 B E M tb0) p l e room_1 s m args below meth c 7 Q Z0 ad0 Z0 0 [(0, Value.ref 63)] [] := by
  refine V_newO (pc := 0) (k := 0) (fds := fdP0) C rfl tb0_g CF_X7 rfl (by decide) (by decide +kernel) (by decide +kernel) rfl g84 g85 g60 dL_law_0 (A := True) ⟨⟨by decide, by decide⟩, trivial⟩ (fun _ => ?_)
  rw [show nt (Z0.1 10 0) = 0 by decide]
  have h := CI_0
  generalize nu Z0 0 8 fdP0 = S1 at h ⊢
  refine V_dup (pc := 3) C dL_law_3 rfl ?_
  refine V_callI (pc := 4) C (ct_X7_init (Qa := fun k _ S => k = 0 ∧ CE S) rfl hl (init_c h (fun T h => ⟨rfl, h⟩))) g86 g87 g88 g60 rfl ⟨by decide, by decide, pl_X7_init⟩ ⟨by decide, by decide⟩ (rest := [Value.ref (enc 0 0)]) rfl (le8 rfl) dL_law_4 (fun v2 S2 h2 => ?_) (fun k9 S9 hk h => absurd h.1 (by omega))
  refine V_st (st' := [Value.ref (enc 0 0)]) rfl ?_
  refine V_astore_n (pc := 7) C (i := 1) (lv' := [(1, Value.ref (enc 0 0)), (0, Value.ref 63)]) dL_law_7 rfl (by decide) rfl ?_
  have hce := h2.2
  have q0 := hce.1 12
  have q1 : S2.2 = (7, 26) := hce.2.2.2.2.2.1
  refine V_newO (pc := 8) (k := 12) (fds := fdM0) C rfl tb0_g CF_X8 rfl (by decide) (by decide +kernel) (by decide +kernel) rfl g972 g973 g64 dL_law_8 (A := True) ⟨⟨by rw [q1]; decide, by rw [q1]; decide⟩, trivial⟩ (fun _ => ?_)
  rw [q0, show nt (if 12 = 0 then 1 else if 12 = 1 then 6 else 0) = 0 by decide]
  refine V_dup (pc := 11) C dL_law_11 rfl ?_
  refine V_callI (pc := 12) C (ct_X8_init (Qa := fun k _ S => k = 0 ∧ MJ (nu S2 12 43 fdM0) 1440 S) rfl hl (init_m hce (fun T h => ⟨rfl, h⟩))) g974 g975 g976 g64 rfl ⟨by decide, by decide, pl_X8_init⟩ ⟨by decide, by decide⟩ (rest := [Value.ref (enc 12 0)]) rfl (le8 rfl) dL_law_12 (fun v3 S3 h3 => ?_) (fun k9 S9 hk h => absurd h.1 (by omega))
  refine V_st (st' := [Value.ref (enc 12 0)]) rfl ?_
  refine V_astore_n (pc := 15) C (i := 2) (lv' := [(2, Value.ref (enc 12 0)), (1, Value.ref (enc 0 0)), (0, Value.ref 63)]) dL_law_15 rfl (by decide) rfl ?_
  obtain ⟨hn, hfe⟩ := FE_of hce h3.2
  refine V_iconst (pc := 16) C (v := 1) dL_law_16 rfl ?_
  refine V_newou (pc := 17) C rfl tb0_g g1351 dL_law_17 (A := True) ⟨hn, trivial⟩ (fun _ => ?_)
  refine V_astore_n (pc := 19) C (i := 3) (lv' := [(3, Value.ref (enc 14 0)), (2, Value.ref (enc 12 0)), (1, Value.ref (enc 0 0)), (0, Value.ref 63)]) dL_law_19 rfl (by decide) rfl ?_
  refine V_iconst (pc := 20) C (v := 0) dL_law_20 rfl ?_
  refine V_istore (pc := 21) C (i := 4) (lv' := [(4, Value.int 0), (3, Value.ref (enc 14 0)), (2, Value.ref (enc 12 0)), (1, Value.ref (enc 0 0)), (0, Value.ref 63)]) dL_law_21 (by decide) rfl ?_
  refine V_tb (hct_01 hfe) ?_
  refine V_sub [4, 3, 2, 1, 0] rfl ?_
  exact kk (FE_Rel hfe)
end LB
