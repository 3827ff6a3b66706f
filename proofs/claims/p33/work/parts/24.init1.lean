def w_arI (x : Int32) (S : Sg) (Q : Nat → Int32 → Sg → Prop) : Prop := S.1 12 (nt x) = 0 ∧ Q 0 0 (su (su S 11 (nt x) 0) 13 (nt x) nE)
theorem f0_X7_0 : FI tb0 0 0 (2, 0, 1) 8 RX7 TX7 8 tyX7 := ⟨CF_X7, ⟨_, rfl, rfl, by decide⟩, by decide, by decide, Or.inl rfl⟩
theorem f0_X7_1 : FI tb0 0 1 (2, 1, 1) 8 RX7 TX7 8 tyX7 := ⟨CF_X7, ⟨_, rfl, rfl, by decide⟩, by decide, by decide, Or.inl rfl⟩
theorem f0_X7_2 : FI tb0 0 2 (2, 2, 1) 8 RX7 TX7 8 tyX7 := ⟨CF_X7, ⟨_, rfl, rfl, by decide⟩, by decide, by decide, Or.inl rfl⟩
theorem f0_X7_3 : FI tb0 0 3 (2, 3, 1) 8 RX7 TX7 8 tyX7 := ⟨CF_X7, ⟨_, rfl, rfl, by decide⟩, by decide, by decide, Or.inl rfl⟩
theorem f0_X7_4 : FI tb0 0 4 (2, 4, 1) 8 RX7 TX7 8 tyX7 := ⟨CF_X7, ⟨_, rfl, rfl, by decide⟩, by decide, by decide, Or.inl rfl⟩
theorem f0_X7_5 : FI tb0 0 5 (2, 5, 1) 8 RX7 TX7 8 tyX7 := ⟨CF_X7, ⟨_, rfl, rfl, by decide⟩, by decide, by decide, Or.inl rfl⟩
theorem f0_X7_6 : FI tb0 0 6 (0, 6, 0) 8 RX7 TX7 8 tyX7 := ⟨CF_X7, ⟨_, rfl, rfl, by decide⟩, by decide, by decide, Or.inl rfl⟩
theorem f0_X7_7 : FI tb0 0 7 (0, 7, 0) 8 RX7 TX7 8 tyX7 := ⟨CF_X7, ⟨_, rfl, rfl, by decide⟩, by decide, by decide, Or.inl rfl⟩
theorem g61 : Cond.methodLink RX7 1 Lib.objectInit ∈ gW := gm 61 (by decide +kernel) (by decide +kernel)
theorem g64 : Cond.classLink RX7 7 RJx4a65c ∈ gW := gm 64 (by decide +kernel) (by decide +kernel)
theorem g65 : Cond.instantiable RJx4a65c 3 ∈ gW := gm 65 (by decide +kernel) (by decide +kernel)
theorem g66 : Cond.methodLink RX7 9 yJx4a65c_init_da8c8 ∈ gW := gm 66 (by decide +kernel) (by decide +kernel)
theorem g67 : Cond.instanceMethod yJx4a65c_init_da8c8 ∈ gW := gm 67 (by decide +kernel) (by decide +kernel)
theorem g68 : Cond.code yJx4a65c_init_da8c8 cJx4a65c_init_da8c8 1 none ∈ gW := gm 68 (by decide +kernel) (by decide +kernel)
section IA
variable {X : Cx} {p : Program} {l : Launch} {e : Env} {R : Room} {s : State} {m : MethodId} {args : Array Value} {below : List Frame} {meth : Method} {c : Code} {S0 : Sg} {ad0 : Nat → Nat} {Qa : Nat → Int32 → Sg → Prop}
theorem ct_arI2 (hT : xT X = tb0) (hl : l.stackTraces = false) {x : Int32} {S : Sg} (h : w_arI x S Qa) : CT X k0 l yJx4a65c_init_da8c8 cJx4a65c_init_da8c8 1 none 3 52 [.ref (enc 1 (nt x))] rvV S Qa := ct_arI hT hl h.1 h.2
theorem pl_X7_init : (parseMethodDescriptor yX7_init.desc).map (fun d => d.parameters.length) = some 0 := by decide +kernel
def w_X7_init  (S : Sg) (Q : Nat → Int32 → Sg → Prop) : Prop := ((S.2.1 + 1 ≤ nB1 ∧ S.2.2 + 3 ≤ nB2) ∧ (∀ v2, v2 = S.1 10 1 → ∀ S1, S1 = nu S 1 3 fdList → (w_arI v2 S1 (fun k5 v4 S3 => (k5 = 0 → (¬ v2 < 0 ∧ (∀ S6, S6 = su S3 0 0 v2 → ((S6.2.1 + 1 ≤ nB1 ∧ S6.2.2 + 3 ≤ nB2) ∧ (∀ v8, v8 = S6.1 10 1 → ∀ S7, S7 = nu S6 1 3 fdList → (w_arI v8 S7 (fun k11 v10 S9 => (k11 = 0 → (¬ v8 < 0 ∧ (∀ S12, S12 = su S9 1 0 v8 → ((S12.2.1 + 1 ≤ nB1 ∧ S12.2.2 + 3 ≤ nB2) ∧ (∀ v14, v14 = S12.1 10 1 → ∀ S13, S13 = nu S12 1 3 fdList → (w_arI v14 S13 (fun k17 v16 S15 => (k17 = 0 → (¬ v14 < 0 ∧ (∀ S18, S18 = su S15 2 0 v14 → ((S18.2.1 + 1 ≤ nB1 ∧ S18.2.2 + 3 ≤ nB2) ∧ (∀ v20, v20 = S18.1 10 1 → ∀ S19, S19 = nu S18 1 3 fdList → (w_arI v20 S19 (fun k23 v22 S21 => (k23 = 0 → (¬ v20 < 0 ∧ (∀ S24, S24 = su S21 3 0 v20 → ((S24.2.1 + 1 ≤ nB1 ∧ S24.2.2 + 3 ≤ nB2) ∧ (∀ v26, v26 = S24.1 10 1 → ∀ S25, S25 = nu S24 1 3 fdList → (w_arI v26 S25 (fun k29 v28 S27 => (k29 = 0 → (¬ v26 < 0 ∧ (∀ S30, S30 = su S27 4 0 v26 → ((S30.2.1 + 1 ≤ nB1 ∧ S30.2.2 + 3 ≤ nB2) ∧ (∀ v32, v32 = S30.1 10 1 → ∀ S31, S31 = nu S30 1 3 fdList → (w_arI v32 S31 (fun k35 v34 S33 => (k35 = 0 → (¬ v32 < 0 ∧ (∀ S36, S36 = su S33 5 0 v32 → (∀ S37, S37 = su S36 6 0 0 → (∀ S38, S38 = su S37 7 0 10 → Q 0 0 S38))))) ∧ (¬ k35 = 0 → Q k35 0 S33)))))))) ∧ (¬ k29 = 0 → Q k29 0 S27)))))))) ∧ (¬ k23 = 0 → Q k23 0 S21)))))))) ∧ (¬ k17 = 0 → Q k17 0 S15)))))))) ∧ (¬ k11 = 0 → Q k11 0 S9)))))))) ∧ (¬ k5 = 0 → Q k5 0 S3)))))
theorem ct_X7_init (hT : xT X = tb0) (hl : l.stackTraces = false)  {S : Sg} (h : w_X7_init  S Qa) : CT X k0 l yX7_init cX7_init 1 none 4 72 [Value.ref (enc 0 0)] rvV S Qa :=
  CT_ofV (own := RX7) (by decide +kernel) (le8 rfl) rfl hl fun p e R s m args below meth c ad0 C hr hnm htab => by
    refine V_aload_n (pc := 0) C dX7_init_0 rfl 0 rfl ?_
    refine V_objI (pc := 1) C g61 g62 g63 ⟨by decide, le8 rfl⟩ dX7_init_1 ?_
    refine V_aload_n (pc := 4) C dX7_init_4 rfl 0 rfl ?_
    refine V_newO (pc := 5) (k := 1) (fds := fdList) C hT tb0_g CF_Jx4a65c rfl (by decide) (by decide +kernel) (by decide +kernel) rfl g64 g65 g36 dX7_init_5 h (fun h => V_nR fun v2 e8 => V_nx fun S1 e9 => ?_)
    replace h := h v2 e8 S1 e9; clear e8 e9
    refine V_dup (pc := 8) C dX7_init_8 rfl ?_
    refine V_callI (pc := 9) C (ct_arI2 hT hl h) g66 g67 g68 g36 rfl ⟨by decide, by decide, pl_Jx4a65c_init_da8c8⟩ ⟨by decide, by decide⟩ (rest := [Value.ref (enc 1 (nt v2)), Value.ref (enc 0 0)]) rfl (le8 rfl) dX7_init_9 (fun v4 S3 h => ?_) (fun k9 S9 hk h => VX_out C htab hk (h.2 (by omega)))
    replace h := h.1 rfl
    refine V_st (st' := [Value.ref (enc 1 (nt v2)), Value.ref (enc 0 0)]) rfl ?_
    refine V_putN (pc := 12) C hT tb0_ok f0_X7_0 (by decide) (by unfold lc; decide) g90 (Or.inr ⟨rfl, hnm, rfl⟩) (Or.inl ⟨_, rfl⟩) dX7_init_12 h (fun h => V_nx fun S6 e9 => ?_)
    replace h := h S6 e9; clear e9
    refine V_aload_n (pc := 15) C dX7_init_15 rfl 0 rfl ?_
    refine V_newO (pc := 16) (k := 1) (fds := fdList) C hT tb0_g CF_Jx4a65c rfl (by decide) (by decide +kernel) (by decide +kernel) rfl g64 g65 g36 dX7_init_16 h (fun h => V_nR fun v8 e8 => V_nx fun S7 e9 => ?_)
    replace h := h v8 e8 S7 e9; clear e8 e9
    refine V_dup (pc := 19) C dX7_init_19 rfl ?_
    refine V_callI (pc := 20) C (ct_arI2 hT hl h) g66 g67 g68 g36 rfl ⟨by decide, by decide, pl_Jx4a65c_init_da8c8⟩ ⟨by decide, by decide⟩ (rest := [Value.ref (enc 1 (nt v8)), Value.ref (enc 0 0)]) rfl (le8 rfl) dX7_init_20 (fun v10 S9 h => ?_) (fun k9 S9 hk h => VX_out C htab hk (h.2 (by omega)))
    replace h := h.1 rfl
    refine V_st (st' := [Value.ref (enc 1 (nt v8)), Value.ref (enc 0 0)]) rfl ?_
    refine V_putN (pc := 23) C hT tb0_ok f0_X7_1 (by decide) (by unfold lc; decide) g91 (Or.inr ⟨rfl, hnm, rfl⟩) (Or.inl ⟨_, rfl⟩) dX7_init_23 h (fun h => V_nx fun S12 e9 => ?_)
    replace h := h S12 e9; clear e9
    refine V_aload_n (pc := 26) C dX7_init_26 rfl 0 rfl ?_
    refine V_newO (pc := 27) (k := 1) (fds := fdList) C hT tb0_g CF_Jx4a65c rfl (by decide) (by decide +kernel) (by decide +kernel) rfl g64 g65 g36 dX7_init_27 h (fun h => V_nR fun v14 e8 => V_nx fun S13 e9 => ?_)
    replace h := h v14 e8 S13 e9; clear e8 e9
    refine V_dup (pc := 30) C dX7_init_30 rfl ?_
    refine V_callI (pc := 31) C (ct_arI2 hT hl h) g66 g67 g68 g36 rfl ⟨by decide, by decide, pl_Jx4a65c_init_da8c8⟩ ⟨by decide, by decide⟩ (rest := [Value.ref (enc 1 (nt v14)), Value.ref (enc 0 0)]) rfl (le8 rfl) dX7_init_31 (fun v16 S15 h => ?_) (fun k9 S9 hk h => VX_out C htab hk (h.2 (by omega)))
    replace h := h.1 rfl
    refine V_st (st' := [Value.ref (enc 1 (nt v14)), Value.ref (enc 0 0)]) rfl ?_
    refine V_putN (pc := 34) C hT tb0_ok f0_X7_2 (by decide) (by unfold lc; decide) g92 (Or.inr ⟨rfl, hnm, rfl⟩) (Or.inl ⟨_, rfl⟩) dX7_init_34 h (fun h => V_nx fun S18 e9 => ?_)
    replace h := h S18 e9; clear e9
    refine V_aload_n (pc := 37) C dX7_init_37 rfl 0 rfl ?_
    refine V_newO (pc := 38) (k := 1) (fds := fdList) C hT tb0_g CF_Jx4a65c rfl (by decide) (by decide +kernel) (by decide +kernel) rfl g64 g65 g36 dX7_init_38 h (fun h => V_nR fun v20 e8 => V_nx fun S19 e9 => ?_)
    replace h := h v20 e8 S19 e9; clear e8 e9
    refine V_dup (pc := 41) C dX7_init_41 rfl ?_
    refine V_callI (pc := 42) C (ct_arI2 hT hl h) g66 g67 g68 g36 rfl ⟨by decide, by decide, pl_Jx4a65c_init_da8c8⟩ ⟨by decide, by decide⟩ (rest := [Value.ref (enc 1 (nt v20)), Value.ref (enc 0 0)]) rfl (le8 rfl) dX7_init_42 (fun v22 S21 h => ?_) (fun k9 S9 hk h => VX_out C htab hk (h.2 (by omega)))
    replace h := h.1 rfl
    refine V_st (st' := [Value.ref (enc 1 (nt v20)), Value.ref (enc 0 0)]) rfl ?_
    refine V_putN (pc := 45) C hT tb0_ok f0_X7_3 (by decide) (by unfold lc; decide) g93 (Or.inr ⟨rfl, hnm, rfl⟩) (Or.inl ⟨_, rfl⟩) dX7_init_45 h (fun h => V_nx fun S24 e9 => ?_)
    replace h := h S24 e9; clear e9
    refine V_aload_n (pc := 48) C dX7_init_48 rfl 0 rfl ?_
    refine V_newO (pc := 49) (k := 1) (fds := fdList) C hT tb0_g CF_Jx4a65c rfl (by decide) (by decide +kernel) (by decide +kernel) rfl g64 g65 g36 dX7_init_49 h (fun h => V_nR fun v26 e8 => V_nx fun S25 e9 => ?_)
    replace h := h v26 e8 S25 e9; clear e8 e9
    refine V_dup (pc := 52) C dX7_init_52 rfl ?_
    refine V_callI (pc := 53) C (ct_arI2 hT hl h) g66 g67 g68 g36 rfl ⟨by decide, by decide, pl_Jx4a65c_init_da8c8⟩ ⟨by decide, by decide⟩ (rest := [Value.ref (enc 1 (nt v26)), Value.ref (enc 0 0)]) rfl (le8 rfl) dX7_init_53 (fun v28 S27 h => ?_) (fun k9 S9 hk h => VX_out C htab hk (h.2 (by omega)))
    replace h := h.1 rfl
    refine V_st (st' := [Value.ref (enc 1 (nt v26)), Value.ref (enc 0 0)]) rfl ?_
    refine V_putN (pc := 56) C hT tb0_ok f0_X7_4 (by decide) (by unfold lc; decide) g94 (Or.inr ⟨rfl, hnm, rfl⟩) (Or.inl ⟨_, rfl⟩) dX7_init_56 h (fun h => V_nx fun S30 e9 => ?_)
    replace h := h S30 e9; clear e9
    refine V_aload_n (pc := 59) C dX7_init_59 rfl 0 rfl ?_
    refine V_newO (pc := 60) (k := 1) (fds := fdList) C hT tb0_g CF_Jx4a65c rfl (by decide) (by decide +kernel) (by decide +kernel) rfl g64 g65 g36 dX7_init_60 h (fun h => V_nR fun v32 e8 => V_nx fun S31 e9 => ?_)
    replace h := h v32 e8 S31 e9; clear e8 e9
    refine V_dup (pc := 63) C dX7_init_63 rfl ?_
    refine V_callI (pc := 64) C (ct_arI2 hT hl h) g66 g67 g68 g36 rfl ⟨by decide, by decide, pl_Jx4a65c_init_da8c8⟩ ⟨by decide, by decide⟩ (rest := [Value.ref (enc 1 (nt v32)), Value.ref (enc 0 0)]) rfl (le8 rfl) dX7_init_64 (fun v34 S33 h => ?_) (fun k9 S9 hk h => VX_out C htab hk (h.2 (by omega)))
    replace h := h.1 rfl
    refine V_st (st' := [Value.ref (enc 1 (nt v32)), Value.ref (enc 0 0)]) rfl ?_
    refine V_putN (pc := 67) C hT tb0_ok f0_X7_5 (by decide) (by unfold lc; decide) g95 (Or.inr ⟨rfl, hnm, rfl⟩) (Or.inl ⟨_, rfl⟩) dX7_init_67 h (fun h => V_nx fun S36 e9 => ?_)
    replace h := h S36 e9; clear e9
    refine V_aload_n (pc := 70) C dX7_init_70 rfl 0 rfl ?_
    refine V_iconst (pc := 71) C (v := 0) dX7_init_71 rfl ?_
    refine V_putI (pc := 72) C hT tb0_ok f0_X7_6 (by unfold lc; decide) g96 (Or.inl rfl) (Or.inl rfl) dX7_init_72 (V_nx fun S37 e9 => ?_)
    replace h := h S37 e9; clear e9
    refine V_aload_n (pc := 75) C dX7_init_75 rfl 0 rfl ?_
    refine V_bipush (pc := 76) C (v := 10) dX7_init_76 rfl ?_
    refine V_putI (pc := 78) C hT tb0_ok f0_X7_7 (by unfold lc; decide) g97 (Or.inl rfl) (Or.inl rfl) dX7_init_78 (V_nx fun S38 e9 => ?_)
    replace h := h S38 e9; clear e9
    exact V_vret (pc := 81) C hr rfl h dX7_init_81
end IA
