section KA
variable {X : Cx} {p : Program} {l : Launch} {e : Env} {R : Room} {s : State} {m : MethodId} {args : Array Value} {below : List Frame} {meth : Method} {c : Code} {S0 : Sg} {ad0 : Nat → Nat} {Qa : Nat → Int32 → Sg → Prop}
theorem pl_X0_init : (parseMethodDescriptor yX0_init.desc).map (fun d => d.parameters.length) = some 4 := by decide +kernel
def w_X0_init (a0 : Int32) (a1 : Int32) (a2 : Int32) (a3 : Int32) (a4 : Int32) (S : Sg) (Q : Nat → Int32 → Sg → Prop) : Prop := (∀ S1, S1 = su S 34 (nt a0) 50 → (∀ S2, S2 = su S1 35 (nt a0) 0 → (∀ S3, S3 = su S2 36 (nt a0) 50 → (∀ S4, S4 = su S3 37 (nt a0) 0 → (∀ S5, S5 = su S4 38 (nt a0) 0 → (∀ S6, S6 = su S5 30 (nt a0) a1 → (∀ S7, S7 = su S6 31 (nt a0) a2 → (∀ S8, S8 = su S7 32 (nt a0) a3 → (∀ S9, S9 = su S8 33 (nt a0) a4 → Q 0 0 S9)))))))))
theorem ct_X0_init (hT : xT X = tb1) (hl : l.stackTraces = false) {a0 : Int32} {a1 : Int32} {a2 : Int32} {a3 : Int32} {a4 : Int32} {S : Sg} (h : w_X0_init a0 a1 a2 a3 a4 S Qa) : CT X k0 l yX0_init cX0_init 5 none 1 12 [Value.ref (enc 4 (nt a0)), Value.int a1, Value.int a2, Value.int a3, Value.int a4] rvV S Qa :=
  CT_ofV (own := RX0) (by decide +kernel) (le8 rfl) rfl hl fun p e R s m args below meth c ad0 C hr hnm htab => by
    refine V_aload_n (pc := 0) C dX0_init_0 rfl 0 rfl ?_
    refine V_objI (pc := 1) C g357 g62 g63 ⟨by decide, le8 rfl⟩ dX0_init_1 ?_
    refine V_aload_n (pc := 4) C dX0_init_4 rfl 0 rfl ?_
    refine V_bipush (pc := 5) C (v := 50) dX0_init_5 rfl ?_
    refine V_putI (pc := 7) C hT tb1_ok f1_X0_4 (by unfold lc; decide) g367 (Or.inl rfl) (Or.inl rfl) dX0_init_7 (V_nx fun S1 e9 => ?_)
    replace h := h S1 e9; clear e9
    refine V_aload_n (pc := 10) C dX0_init_10 rfl 0 rfl ?_
    refine V_iconst (pc := 11) C (v := 0) dX0_init_11 rfl ?_
    refine V_putI (pc := 12) C hT tb1_ok f1_X0_5 (by unfold lc; decide) g369 (Or.inl rfl) (Or.inl rfl) dX0_init_12 (V_nx fun S2 e9 => ?_)
    replace h := h S2 e9; clear e9
    refine V_aload_n (pc := 15) C dX0_init_15 rfl 0 rfl ?_
    refine V_bipush (pc := 16) C (v := 50) dX0_init_16 rfl ?_
    refine V_putI (pc := 18) C hT tb1_ok f1_X0_6 (by unfold lc; decide) g371 (Or.inl rfl) (Or.inl rfl) dX0_init_18 (V_nx fun S3 e9 => ?_)
    replace h := h S3 e9; clear e9
    refine V_aload_n (pc := 21) C dX0_init_21 rfl 0 rfl ?_
    refine V_iconst (pc := 22) C (v := 0) dX0_init_22 rfl ?_
    refine V_putI (pc := 23) C hT tb1_ok f1_X0_7 (by unfold lc; decide) g373 (Or.inl rfl) (Or.inl rfl) dX0_init_23 (V_nx fun S4 e9 => ?_)
    replace h := h S4 e9; clear e9
    refine V_aload_n (pc := 26) C dX0_init_26 rfl 0 rfl ?_
    refine V_iconst (pc := 27) C (v := 0) dX0_init_27 rfl ?_
    refine V_putI (pc := 28) C hT tb1_ok f1_X0_8 (by unfold lc; decide) g375 (Or.inl rfl) (Or.inl rfl) dX0_init_28 (V_nx fun S5 e9 => ?_)
    replace h := h S5 e9; clear e9
    refine V_aload_n (pc := 31) C dX0_init_31 rfl 0 rfl ?_
    refine V_iload_n (pc := 32) C dX0_init_32 rfl 1 rfl ?_
    refine V_putI (pc := 33) C hT tb1_ok f1_X0_0 (by unfold lc; decide) g358 (Or.inr ⟨rfl, hnm, rfl⟩) (Or.inl rfl) dX0_init_33 (V_nx fun S6 e9 => ?_)
    replace h := h S6 e9; clear e9
    refine V_aload_n (pc := 36) C dX0_init_36 rfl 0 rfl ?_
    refine V_iload_n (pc := 37) C dX0_init_37 rfl 2 rfl ?_
    refine V_putI (pc := 38) C hT tb1_ok f1_X0_1 (by unfold lc; decide) g360 (Or.inr ⟨rfl, hnm, rfl⟩) (Or.inl rfl) dX0_init_38 (V_nx fun S7 e9 => ?_)
    replace h := h S7 e9; clear e9
    refine V_aload_n (pc := 41) C dX0_init_41 rfl 0 rfl ?_
    refine V_iload_n (pc := 42) C dX0_init_42 rfl 3 rfl ?_
    refine V_putI (pc := 43) C hT tb1_ok f1_X0_2 (by unfold lc; decide) g363 (Or.inr ⟨rfl, hnm, rfl⟩) (Or.inl rfl) dX0_init_43 (V_nx fun S8 e9 => ?_)
    replace h := h S8 e9; clear e9
    refine V_aload_n (pc := 46) C dX0_init_46 rfl 0 rfl ?_
    refine V_iload (pc := 47) C dX0_init_47 4 rfl ?_
    refine V_putI (pc := 49) C hT tb1_ok f1_X0_3 (by unfold lc; decide) g365 (Or.inr ⟨rfl, hnm, rfl⟩) (Or.inl rfl) dX0_init_49 (V_nx fun S9 e9 => ?_)
    replace h := h S9 e9; clear e9
    exact V_vret (pc := 52) C hr rfl h dX0_init_52
theorem pl_X0_ownersOf : (parseMethodDescriptor yX0_ownersOf.desc).map (fun d => d.parameters.length) = some 2 := by decide +kernel
def w_X0_ownersOf (a0 : Int32) (a1 : Int32) (a2 : Int32) (S : Sg) (Q : Nat → Int32 → Sg → Prop) : Prop := (w_J9_max_7cf53 ((S.1 34 (nt a0)) - (a2 * (S.1 35 (nt a0)))) (S.1 36 (nt a0)) S (fun k3 v2 S1 => (k3 = 0 → (w_J9_max_7cf53 (a1 - (S1.1 37 (nt a0))) 0 S1 (fun k6 v5 S4 => (k6 = 0 → (w_J9_max_7cf53 ((v2 * v5) / 100) (((S4.1 36 (nt a0)) * a1) / 100) S4 (fun k9 v8 S7 => (k9 = 0 → Q 0 v8 S7) ∧ (¬ k9 = 0 → Q k9 0 S7)))) ∧ (¬ k6 = 0 → Q k6 0 S4)))) ∧ (¬ k3 = 0 → Q k3 0 S1)))
theorem ct_X0_ownersOf (hT : xT X = tb1) (hl : l.stackTraces = false) {a0 : Int32} {a1 : Int32} {a2 : Int32} {S : Sg} (h : w_X0_ownersOf a0 a1 a2 S Qa) : CT X k0 l yX0_ownersOf cX0_ownersOf 5 (some .int) 2 21 [Value.ref (enc 4 (nt a0)), Value.int a1, Value.int a2] rvI S Qa :=
  CT_ofV (own := RX0) (by decide +kernel) (le8 rfl) rfl hl fun p e R s m args below meth c ad0 C hr hnm htab => by
    refine V_aload_n (pc := 0) C dX0_ownersOf_0 rfl 0 rfl ?_
    refine V_getI (pc := 1) C hT f1_X0_4 g367 dX0_ownersOf_1 ?_
    refine V_iload_n (pc := 4) C dX0_ownersOf_4 rfl 2 rfl ?_
    refine V_aload_n (pc := 5) C dX0_ownersOf_5 rfl 0 rfl ?_
    refine V_getI (pc := 6) C hT f1_X0_5 g369 dX0_ownersOf_6 ?_
    refine V_imul (pc := 9) C dX0_ownersOf_9 ?_
    refine V_isub (pc := 10) C dX0_ownersOf_10 ?_
    refine V_aload_n (pc := 11) C dX0_ownersOf_11 rfl 0 rfl ?_
    refine V_getI (pc := 12) C hT f1_X0_6 g371 dX0_ownersOf_12 ?_
    refine V_callS (pc := 15) C (ct_J9_max_7cf53 hT hl h) g862 g269 g270 g44 ⟨by decide, by decide, pl_J9_max_7cf53⟩ ⟨by decide, by decide⟩ (rest := []) rfl (le8 rfl) dX0_ownersOf_15 (fun v2 S1 h => ?_) (fun k9 S9 hk h => VX_out C htab hk (h.2 (by omega)))
    replace h := h.1 rfl
    refine V_st (st' := [Value.int v2]) rfl ?_
    refine V_istore_n (pc := 18) C dX0_ownersOf_18 rfl (by decide) rfl ?_
    refine V_iload_n (pc := 19) C dX0_ownersOf_19 rfl 2 rfl ?_
    refine V_aload_n (pc := 20) C dX0_ownersOf_20 rfl 1 rfl ?_
    refine V_getI (pc := 21) C hT f1_X0_7 g373 dX0_ownersOf_21 ?_
    refine V_isub (pc := 24) C dX0_ownersOf_24 ?_
    refine V_iconst (pc := 25) C (v := 0) dX0_ownersOf_25 rfl ?_
    refine V_callS (pc := 26) C (ct_J9_max_7cf53 hT hl h) g862 g269 g270 g44 ⟨by decide, by decide, pl_J9_max_7cf53⟩ ⟨by decide, by decide⟩ (rest := []) rfl (le8 rfl) dX0_ownersOf_26 (fun v5 S4 h => ?_) (fun k9 S9 hk h => VX_out C htab hk (h.2 (by omega)))
    replace h := h.1 rfl
    refine V_st (st' := [Value.int v5]) rfl ?_
    refine V_istore (pc := 29) C dX0_ownersOf_29 (by decide) rfl ?_
    refine V_iload_n (pc := 31) C dX0_ownersOf_31 rfl 1 rfl ?_
    refine V_iload (pc := 32) C dX0_ownersOf_32 0 rfl ?_
    refine V_imul (pc := 34) C dX0_ownersOf_34 ?_
    refine V_bipush (pc := 35) C (v := 100) dX0_ownersOf_35 rfl ?_
    refine V_idiv (pc := 37) C dX0_ownersOf_37 (by decide) ?_
    refine V_aload_n (pc := 38) C dX0_ownersOf_38 rfl 2 rfl ?_
    refine V_getI (pc := 39) C hT f1_X0_6 g371 dX0_ownersOf_39 ?_
    refine V_iload_n (pc := 42) C dX0_ownersOf_42 rfl 3 rfl ?_
    refine V_imul (pc := 43) C dX0_ownersOf_43 ?_
    refine V_bipush (pc := 44) C (v := 100) dX0_ownersOf_44 rfl ?_
    refine V_idiv (pc := 46) C dX0_ownersOf_46 (by decide) ?_
    refine V_callS (pc := 47) C (ct_J9_max_7cf53 hT hl h) g862 g269 g270 g44 ⟨by decide, by decide, pl_J9_max_7cf53⟩ ⟨by decide, by decide⟩ (rest := []) rfl (le8 rfl) dX0_ownersOf_47 (fun v8 S7 h => ?_) (fun k9 S9 hk h => VX_out C htab hk (h.2 (by omega)))
    replace h := h.1 rfl
    refine V_st (st' := [Value.int v8]) rfl ?_
    exact V_iret (pc := 50) C hr rfl h dX0_ownersOf_50
theorem pl_X1_init : (parseMethodDescriptor yX1_init.desc).map (fun d => d.parameters.length) = some 3 := by decide +kernel
def w_X1_init (a0 : Int32) (a1 : Int32) (a2 : Int32) (a3 : Int32) (S : Sg) (Q : Nat → Int32 → Sg → Prop) : Prop := (∀ S1, S1 = su S 23 (nt a0) 0 → (∀ S2, S2 = su S1 24 (nt a0) 5000 → (∀ S3, S3 = su S2 20 (nt a0) a1 → (∀ S4, S4 = su S3 21 (nt a0) a2 → (∀ S5, S5 = su S4 22 (nt a0) a3 → Q 0 0 S5)))))
theorem ct_X1_init (hT : xT X = tb1) (hl : l.stackTraces = false) {a0 : Int32} {a1 : Int32} {a2 : Int32} {a3 : Int32} {S : Sg} (h : w_X1_init a0 a1 a2 a3 S Qa) : CT X k0 l yX1_init cX1_init 4 none 1 12 [Value.ref (enc 3 (nt a0)), Value.int a1, Value.int a2, Value.int a3] rvV S Qa :=
  CT_ofV (own := RX1) (by decide +kernel) (le8 rfl) rfl hl fun p e R s m args below meth c ad0 C hr hnm htab => by
    refine V_aload_n (pc := 0) C dX1_init_0 rfl 0 rfl ?_
    refine V_objI (pc := 1) C g225 g62 g63 ⟨by decide, le8 rfl⟩ dX1_init_1 ?_
    refine V_aload_n (pc := 4) C dX1_init_4 rfl 0 rfl ?_
    refine V_iconst (pc := 5) C (v := 0) dX1_init_5 rfl ?_
    refine V_putI (pc := 6) C hT tb1_ok f1_X1_3 (by unfold lc; decide) g234 (Or.inl rfl) (Or.inl rfl) dX1_init_6 (V_nx fun S1 e9 => ?_)
    replace h := h S1 e9; clear e9
    refine V_aload_n (pc := 9) C dX1_init_9 rfl 0 rfl ?_
    refine V_sipush (pc := 10) C (v := 5000) dX1_init_10 rfl ?_
    refine V_putI (pc := 13) C hT tb1_ok f1_X1_4 (by unfold lc; decide) g236 (Or.inl rfl) (Or.inl rfl) dX1_init_13 (V_nx fun S2 e9 => ?_)
    replace h := h S2 e9; clear e9
    refine V_aload_n (pc := 16) C dX1_init_16 rfl 0 rfl ?_
    refine V_iload_n (pc := 17) C dX1_init_17 rfl 1 rfl ?_
    refine V_putI (pc := 18) C hT tb1_ok f1_X1_0 (by unfold lc; decide) g226 (Or.inr ⟨rfl, hnm, rfl⟩) (Or.inl rfl) dX1_init_18 (V_nx fun S3 e9 => ?_)
    replace h := h S3 e9; clear e9
    refine V_aload_n (pc := 21) C dX1_init_21 rfl 0 rfl ?_
    refine V_iload_n (pc := 22) C dX1_init_22 rfl 2 rfl ?_
    refine V_putI (pc := 23) C hT tb1_ok f1_X1_1 (by unfold lc; decide) g228 (Or.inr ⟨rfl, hnm, rfl⟩) (Or.inl rfl) dX1_init_23 (V_nx fun S4 e9 => ?_)
    replace h := h S4 e9; clear e9
    refine V_aload_n (pc := 26) C dX1_init_26 rfl 0 rfl ?_
    refine V_iload_n (pc := 27) C dX1_init_27 rfl 3 rfl ?_
    refine V_putI (pc := 28) C hT tb1_ok f1_X1_2 (by unfold lc; decide) g231 (Or.inr ⟨rfl, hnm, rfl⟩) (Or.inl rfl) dX1_init_28 (V_nx fun S5 e9 => ?_)
    replace h := h S5 e9; clear e9
    exact V_vret (pc := 31) C hr rfl h dX1_init_31
theorem pl_X2_init : (parseMethodDescriptor yX2_init.desc).map (fun d => d.parameters.length) = some 3 := by decide +kernel
def w_X2_init (a0 : Int32) (a1 : Int32) (a2 : Int32) (a3 : Int32) (S : Sg) (Q : Nat → Int32 → Sg → Prop) : Prop := (∀ S1, S1 = su S 63 (nt a0) 0 → (¬ a1 < 0 ∧ (∀ S2, S2 = su S1 60 (nt a0) a1 → (∀ S3, S3 = su S2 61 (nt a0) a2 → (∀ S4, S4 = su S3 62 (nt a0) a3 → Q 0 0 S4)))))
theorem ct_X2_init (hT : xT X = tb1) (hl : l.stackTraces = false) {a0 : Int32} {a1 : Int32} {a2 : Int32} {a3 : Int32} {S : Sg} (h : w_X2_init a0 a1 a2 a3 S Qa) : CT X k0 l yX2_init cX2_init 4 none 1 12 [Value.ref (enc 7 (nt a0)), Value.ref (enc 6 (nt a1)), Value.int a2, Value.int a3] rvV S Qa :=
  CT_ofV (own := RX2) (by decide +kernel) (le8 rfl) rfl hl fun p e R s m args below meth c ad0 C hr hnm htab => by
    refine V_aload_n (pc := 0) C dX2_init_0 rfl 0 rfl ?_
    refine V_objI (pc := 1) C g653 g62 g63 ⟨by decide, le8 rfl⟩ dX2_init_1 ?_
    refine V_aload_n (pc := 4) C dX2_init_4 rfl 0 rfl ?_
    refine V_iconst (pc := 5) C (v := 0) dX2_init_5 rfl ?_
    refine V_putI (pc := 6) C hT tb1_ok f1_X2_3 (by unfold lc; decide) g660 (Or.inl rfl) (Or.inr ⟨rfl, by decide⟩) dX2_init_6 (V_nx fun S1 e9 => ?_)
    replace h := h S1 e9; clear e9
    refine V_aload_n (pc := 9) C dX2_init_9 rfl 0 rfl ?_
    refine V_aload_n (pc := 10) C dX2_init_10 rfl 1 rfl ?_
    refine V_putN (pc := 11) C hT tb1_ok f1_X2_0 (by decide) (by unfold lc; decide) g654 (Or.inr ⟨rfl, hnm, rfl⟩) (Or.inl ⟨_, rfl⟩) dX2_init_11 h (fun h => V_nx fun S2 e9 => ?_)
    replace h := h S2 e9; clear e9
    refine V_aload_n (pc := 14) C dX2_init_14 rfl 0 rfl ?_
    refine V_iload_n (pc := 15) C dX2_init_15 rfl 2 rfl ?_
    refine V_putI (pc := 16) C hT tb1_ok f1_X2_1 (by unfold lc; decide) g656 (Or.inr ⟨rfl, hnm, rfl⟩) (Or.inl rfl) dX2_init_16 (V_nx fun S3 e9 => ?_)
    replace h := h S3 e9; clear e9
    refine V_aload_n (pc := 19) C dX2_init_19 rfl 0 rfl ?_
    refine V_iload_n (pc := 20) C dX2_init_20 rfl 3 rfl ?_
    refine V_putI (pc := 21) C hT tb1_ok f1_X2_2 (by unfold lc; decide) g658 (Or.inr ⟨rfl, hnm, rfl⟩) (Or.inl rfl) dX2_init_21 (V_nx fun S4 e9 => ?_)
    replace h := h S4 e9; clear e9
    exact V_vret (pc := 24) C hr rfl h dX2_init_24
theorem pl_X3_init : (parseMethodDescriptor yX3_init.desc).map (fun d => d.parameters.length) = some 4 := by decide +kernel
def w_X3_init (a0 : Int32) (a1 : Int32) (a2 : Int32) (a3 : Int32) (a4 : Int32) (S : Sg) (Q : Nat → Int32 → Sg → Prop) : Prop := (∀ S1, S1 = su S 40 (nt a0) a1 → (∀ S2, S2 = su S1 41 (nt a0) a2 → (∀ S3, S3 = su S2 42 (nt a0) a3 → (∀ S4, S4 = su S3 43 (nt a0) a4 → Q 0 0 S4))))
theorem ct_X3_init (hT : xT X = tb1) (hl : l.stackTraces = false) {a0 : Int32} {a1 : Int32} {a2 : Int32} {a3 : Int32} {a4 : Int32} {S : Sg} (h : w_X3_init a0 a1 a2 a3 a4 S Qa) : CT X k0 l yX3_init cX3_init 5 none 1 12 [Value.ref (enc 5 (nt a0)), Value.int a1, Value.int a2, Value.int a3, Value.int a4] rvV S Qa :=
  CT_ofV (own := RX3) (by decide +kernel) (le8 rfl) rfl hl fun p e R s m args below meth c ad0 C hr hnm htab => by
    refine V_aload_n (pc := 0) C dX3_init_0 rfl 0 rfl ?_
    refine V_objI (pc := 1) C g412 g62 g63 ⟨by decide, le8 rfl⟩ dX3_init_1 ?_
    refine V_aload_n (pc := 4) C dX3_init_4 rfl 0 rfl ?_
    refine V_iload_n (pc := 5) C dX3_init_5 rfl 1 rfl ?_
    refine V_putI (pc := 6) C hT tb1_ok f1_X3_0 (by unfold lc; decide) g413 (Or.inr ⟨rfl, hnm, rfl⟩) (Or.inl rfl) dX3_init_6 (V_nx fun S1 e9 => ?_)
    replace h := h S1 e9; clear e9
    refine V_aload_n (pc := 9) C dX3_init_9 rfl 0 rfl ?_
    refine V_iload_n (pc := 10) C dX3_init_10 rfl 2 rfl ?_
    refine V_putI (pc := 11) C hT tb1_ok f1_X3_1 (by unfold lc; decide) g415 (Or.inr ⟨rfl, hnm, rfl⟩) (Or.inl rfl) dX3_init_11 (V_nx fun S2 e9 => ?_)
    replace h := h S2 e9; clear e9
    refine V_aload_n (pc := 14) C dX3_init_14 rfl 0 rfl ?_
    refine V_iload_n (pc := 15) C dX3_init_15 rfl 3 rfl ?_
    refine V_putI (pc := 16) C hT tb1_ok f1_X3_2 (by unfold lc; decide) g417 (Or.inr ⟨rfl, hnm, rfl⟩) (Or.inl rfl) dX3_init_16 (V_nx fun S3 e9 => ?_)
    replace h := h S3 e9; clear e9
    refine V_aload_n (pc := 19) C dX3_init_19 rfl 0 rfl ?_
    refine V_iload (pc := 20) C dX3_init_20 4 rfl ?_
    refine V_putI (pc := 22) C hT tb1_ok f1_X3_3 (by unfold lc; decide) g419 (Or.inr ⟨rfl, hnm, rfl⟩) (Or.inl rfl) dX3_init_22 (V_nx fun S4 e9 => ?_)
    replace h := h S4 e9; clear e9
    exact V_vret (pc := 25) C hr rfl h dX3_init_25
theorem pl_X4_init : (parseMethodDescriptor yX4_init.desc).map (fun d => d.parameters.length) = some 0 := by decide +kernel
def w_X4_init (a0 : Int32) (S : Sg) (Q : Nat → Int32 → Sg → Prop) : Prop := ((S.2.1 + 1 ≤ nB1 ∧ S.2.2 + 40 ≤ nB2) ∧ (∀ v2, v2 = S.1 10 11 → ∀ S1, S1 = nag S → (¬ v2 < 0 ∧ (∀ S3, S3 = su S1 80 (nt a0) v2 → (∀ S4, S4 = su S3 81 (nt a0) 0 → (∀ S5, S5 = su S4 82 (nt a0) 0 → Q 0 0 S5))))))
theorem ct_X4_init (hT : xT X = tb1) (hl : l.stackTraces = false) {a0 : Int32} {S : Sg} (h : w_X4_init a0 S Qa) : CT X k0 l yX4_init cX4_init 1 none 1 12 [Value.ref (enc 9 (nt a0))] rvV S Qa :=
  CT_ofV (own := RX4) (by decide +kernel) (le8 rfl) rfl hl fun p e R s m args below meth c ad0 C hr hnm htab => by
    refine V_aload_n (pc := 0) C dX4_init_0 rfl 0 rfl ?_
    refine V_objI (pc := 1) C g482 g62 g63 ⟨by decide, le8 rfl⟩ dX4_init_1 ?_
    refine V_aload_n (pc := 4) C dX4_init_4 rfl 0 rfl ?_
    refine V_bipush (pc := 5) C (v := 40) dX4_init_5 rfl ?_
    refine V_newag (pc := 7) C hT tb1_g g494 dX4_init_7 h (fun h => V_nR fun v2 e8 => V_nx fun S1 e9 => ?_)
    replace h := h v2 e8 S1 e9; clear e8 e9
    refine V_putN (pc := 9) C hT tb1_ok f1_X4_0 (by decide) (by unfold lc; decide) g483 (Or.inr ⟨rfl, hnm, rfl⟩) (Or.inr ⟨_, rfl⟩) dX4_init_9 h (fun h => V_nx fun S3 e9 => ?_)
    replace h := h S3 e9; clear e9
    refine V_aload_n (pc := 12) C dX4_init_12 rfl 0 rfl ?_
    refine V_iconst (pc := 13) C (v := 0) dX4_init_13 rfl ?_
    refine V_putI (pc := 14) C hT tb1_ok f1_X4_1 (by unfold lc; decide) g484 (Or.inl rfl) (Or.inl rfl) dX4_init_14 (V_nx fun S4 e9 => ?_)
    replace h := h S4 e9; clear e9
    refine V_aload_n (pc := 17) C dX4_init_17 rfl 0 rfl ?_
    refine V_iconst (pc := 18) C (v := 0) dX4_init_18 rfl ?_
    refine V_putI (pc := 19) C hT tb1_ok f1_X4_2 (by unfold lc; decide) g485 (Or.inl rfl) (Or.inl rfl) dX4_init_19 (V_nx fun S5 e9 => ?_)
    replace h := h S5 e9; clear e9
    exact V_vret (pc := 22) C hr rfl h dX4_init_22
theorem pl_X4_comeIn : (parseMethodDescriptor yX4_comeIn.desc).map (fun d => d.parameters.length) = some 2 := by decide +kernel
def w_X4_comeIn_44  (Q : Nat → Int32 → Sg → Prop) : Nat → Int32 → Int32 → Int32 → Int32 → Int32 → Sg → Prop
  | 0, _, _, _, _, _, _ => False
  | n + 1, x0, x1, x2, x3, x4, S => ((x4 ≤ x3 → (¬ S.1 80 (nt x0) < 0 ∧ (vp_in x3 40 ∧ (∀ S1, S1 = su S (1001 + 2 * (nt (S.1 80 (nt x0)))) (nt x3) x1 → (∀ S2, S2 = su S1 82 (nt x0) ((S1.1 82 (nt x0)) + 1) → ((x2 = 0 → Q 0 x3 S2) ∧ (¬ x2 = 0 → (∀ S3, S3 = su S2 81 (nt x0) ((S2.1 81 (nt x0)) + 1) → Q 0 x3 S3)))))))) ∧ (¬ x4 ≤ x3 → (¬ S.1 80 (nt x0) < 0 ∧ (¬ S.1 80 (nt x0) < 0 ∧ (vp_in (x4 - 1) 40 ∧ (vp_in x4 40 ∧ (∀ S4, S4 = su S (1001 + 2 * (nt (S.1 80 (nt x0)))) (nt x4) (S.1 (1001 + 2 * (nt (S.1 80 (nt x0)))) (nt (x4 - 1))) → w_X4_comeIn_44  Q n x0 x1 x2 x3 (x4 + (-1)) S4)))))))
theorem k_X4_comeIn_44 (hT : xT X = tb1) (hl : l.stackTraces = false) (C : Cn X k0 p l R s m meth c cX4_comeIn RX4 5 1 0) (hr : meth.sig.returnType = (some .int)) (hnm : meth.name = yX4_comeIn.name) (htab : ∀ x ∈ c.exceptionTable.toList, False)  : ∀ n {x0 : Int32} {x1 : Int32} {x2 : Int32} {x3 : Int32} {x4 : Int32} {S : Sg}, w_X4_comeIn_44  Qa n x0 x1 x2 x3 x4 S → V X p l e R s m args below meth c 5 (QM X below args s S0 ad0 rvI Qa) S0 ad0 S 44 [(0, Value.ref (enc 9 (nt x0))), (1, Value.int x1), (2, Value.int x2), (3, Value.int x3), (4, Value.int x4)] [] := by
  intro n
  induction n with
  | zero => intro x0 x1 x2 x3 x4 S h; exact h.elim
  | succ n ih =>
    intro x0 x1 x2 x3 x4 S h
    refine V_iload (pc := 44) C dX4_comeIn_44 4 rfl ?_
    refine V_iload_n (pc := 46) C dX4_comeIn_46 rfl 3 rfl ?_
    refine V_icmp_le (pc := 47) (tgt := 72) C dX4_comeIn_47 (by decide) h (fun h => ?_) (fun h => ?_)
    · refine V_aload_n (pc := 72) C dX4_comeIn_72 rfl 0 rfl ?_
      refine V_getR (pc := 73) C hT f1_X4_0 (by decide) g483 dX4_comeIn_73 h (fun h => ?_)
      refine V_iload_n (pc := 76) C dX4_comeIn_76 rfl 3 rfl ?_
      refine V_iload_n (pc := 77) C dX4_comeIn_77 rfl 1 rfl ?_
      refine V_ast2 (pc := 78) C hT tb1_arr h dX4_comeIn_78 (fun h => V_nx fun S1 e9 => ?_)
      replace h := h S1 e9; clear e9
      refine V_aload_n (pc := 79) C dX4_comeIn_79 rfl 0 rfl ?_
      refine V_dup (pc := 80) C dX4_comeIn_80 rfl ?_
      refine V_getI (pc := 81) C hT f1_X4_2 g485 dX4_comeIn_81 ?_
      refine V_iconst (pc := 84) C (v := 1) dX4_comeIn_84 rfl ?_
      refine V_iadd (pc := 85) C dX4_comeIn_85 ?_
      refine V_putI (pc := 86) C hT tb1_ok f1_X4_2 (by unfold lc; decide) g485 (Or.inl rfl) (Or.inl rfl) dX4_comeIn_86 (V_nx fun S2 e9 => ?_)
      replace h := h S2 e9; clear e9
      refine V_iload_n (pc := 89) C dX4_comeIn_89 rfl 2 rfl ?_
      refine V_if_eq (pc := 90) (tgt := 103) C dX4_comeIn_90 (by decide) h (fun h => ?_) (fun h => ?_)
      · refine V_iload_n (pc := 103) C dX4_comeIn_103 rfl 3 rfl ?_
        exact V_iret (pc := 104) C hr rfl h dX4_comeIn_104
      · refine V_aload_n (pc := 93) C dX4_comeIn_93 rfl 0 rfl ?_
        refine V_dup (pc := 94) C dX4_comeIn_94 rfl ?_
        refine V_getI (pc := 95) C hT f1_X4_1 g484 dX4_comeIn_95 ?_
        refine V_iconst (pc := 98) C (v := 1) dX4_comeIn_98 rfl ?_
        refine V_iadd (pc := 99) C dX4_comeIn_99 ?_
        refine V_putI (pc := 100) C hT tb1_ok f1_X4_1 (by unfold lc; decide) g484 (Or.inl rfl) (Or.inl rfl) dX4_comeIn_100 (V_nx fun S3 e9 => ?_)
        replace h := h S3 e9; clear e9
        refine V_iload_n (pc := 103) C dX4_comeIn_103 rfl 3 rfl ?_
        exact V_iret (pc := 104) C hr rfl h dX4_comeIn_104
    · refine V_aload_n (pc := 50) C dX4_comeIn_50 rfl 0 rfl ?_
      refine V_getR (pc := 51) C hT f1_X4_0 (by decide) g483 dX4_comeIn_51 h (fun h => ?_)
      refine V_iload (pc := 54) C dX4_comeIn_54 4 rfl ?_
      refine V_aload_n (pc := 56) C dX4_comeIn_56 rfl 0 rfl ?_
      refine V_getR (pc := 57) C hT f1_X4_0 (by decide) g483 dX4_comeIn_57 h (fun h => ?_)
      refine V_iload (pc := 60) C dX4_comeIn_60 4 rfl ?_
      refine V_iconst (pc := 62) C (v := 1) dX4_comeIn_62 rfl ?_
      refine V_isub (pc := 63) C dX4_comeIn_63 ?_
      refine V_ald (pc := 64) C hT tb1_arr h dX4_comeIn_64 (fun h => ?_)
      refine V_ast2 (pc := 65) C hT tb1_arr h dX4_comeIn_65 (fun h => V_nx fun S4 e9 => ?_)
      replace h := h S4 e9; clear e9
      refine V_iinc (pc := 66) C (a := 4) (v := x4 + (-1)) dX4_comeIn_66 rfl rfl (by decide) rfl ?_
      refine V_goto (pc := 69) (tgt := 44) C dX4_comeIn_69 (by decide) ?_
      refine V_sub [1, 2, 3, 4, 0] rfl ?_
      exact ih h
def w_X4_comeIn_15  (Q : Nat → Int32 → Sg → Prop) (x0 : Int32) (x1 : Int32) (x2 : Int32) (y0 : Int32) (S : Sg) : Prop := (¬ S.1 80 (nt x0) < 0 ∧ (((nI 40) ≤ (S.1 82 (nt x0)) → Q 0 (-1) S) ∧ (¬ (nI 40) ≤ (S.1 82 (nt x0)) → ((y0 ≤ (S.1 82 (nt x0)) → (∀ v5, v5 = S.1 82 (nt x0) → ∃ n9, w_X4_comeIn_44  Q n9 x0 x1 x2 y0 v5 S)) ∧ (¬ y0 ≤ (S.1 82 (nt x0)) → Q 0 (-1) S)))))
theorem k_X4_comeIn_15 (hT : xT X = tb1) (hl : l.stackTraces = false) (C : Cn X k0 p l R s m meth c cX4_comeIn RX4 5 1 0) (hr : meth.sig.returnType = (some .int)) (hnm : meth.name = yX4_comeIn.name) (htab : ∀ x ∈ c.exceptionTable.toList, False)  {x0 : Int32} {x1 : Int32} {x2 : Int32} {y0 : Int32} {S : Sg} (h : w_X4_comeIn_15  Qa x0 x1 x2 y0 S) : V X p l e R s m args below meth c 5 (QM X below args s S0 ad0 rvI Qa) S0 ad0 S 15 [(0, Value.ref (enc 9 (nt x0))), (1, Value.int x1), (2, Value.int x2)] [Value.int y0] := by
  refine V_istore_n (pc := 15) C dX4_comeIn_15 rfl (by decide) rfl ?_
  refine V_aload_n (pc := 16) C dX4_comeIn_16 rfl 1 rfl ?_
  refine V_getI (pc := 17) C hT f1_X4_2 g485 dX4_comeIn_17 ?_
  refine V_aload_n (pc := 20) C dX4_comeIn_20 rfl 1 rfl ?_
  refine V_getR (pc := 21) C hT f1_X4_0 (by decide) g483 dX4_comeIn_21 h (fun h => ?_)
  refine V_alen2 (pc := 24) C hT tb1_arr dX4_comeIn_24 ?_
  refine V_icmp_ge (pc := 25) (tgt := 36) C dX4_comeIn_25 (by decide) h (fun h => ?_) (fun h => ?_)
  · refine V_iconst (pc := 36) C (v := (-1)) dX4_comeIn_36 rfl ?_
    exact V_iret (pc := 37) C hr rfl h dX4_comeIn_37
  · refine V_iload_n (pc := 28) C dX4_comeIn_28 rfl 0 rfl ?_
    refine V_aload_n (pc := 29) C dX4_comeIn_29 rfl 1 rfl ?_
    refine V_getI (pc := 30) C hT f1_X4_2 g485 dX4_comeIn_30 ?_
    refine V_icmp_le (pc := 33) (tgt := 38) C dX4_comeIn_33 (by decide) h (fun h => ?_) (fun h => ?_)
    · refine V_aload_n (pc := 38) C dX4_comeIn_38 rfl 1 rfl ?_
      refine V_getI (pc := 39) C hT f1_X4_2 g485 dX4_comeIn_39 ?_
      refine V_nI fun v5 e9 => ?_
      replace h := h v5 e9; clear e9
      refine V_istore (pc := 42) C dX4_comeIn_42 (by decide) rfl ?_
      refine V_sub [2, 3, 4, 1, 0] rfl ?_
      obtain ⟨n9, h⟩ := h
      exact k_X4_comeIn_44 hT hl C hr hnm htab  n9 h
    · refine V_iconst (pc := 36) C (v := (-1)) dX4_comeIn_36 rfl ?_
      exact V_iret (pc := 37) C hr rfl h dX4_comeIn_37
def w_X4_comeIn (a0 : Int32) (a1 : Int32) (a2 : Int32) (S : Sg) (Q : Nat → Int32 → Sg → Prop) : Prop := ((a2 = 0 → w_X4_comeIn_15  Q a0 a1 a2 (S.1 82 (nt a0)) S) ∧ (¬ a2 = 0 → w_X4_comeIn_15  Q a0 a1 a2 (S.1 81 (nt a0)) S))
theorem ct_X4_comeIn (hT : xT X = tb1) (hl : l.stackTraces = false) {a0 : Int32} {a1 : Int32} {a2 : Int32} {S : Sg} (h : w_X4_comeIn a0 a1 a2 S Qa) : CT X k0 l yX4_comeIn cX4_comeIn 5 (some .int) 1 0 [Value.ref (enc 9 (nt a0)), Value.int a1, Value.int a2] rvI S Qa :=
  CT_ofV (own := RX4) (by decide +kernel) (le8 rfl) rfl hl fun p e R s m args below meth c ad0 C hr hnm htab => by
    refine V_iload_n (pc := 0) C dX4_comeIn_0 rfl 2 rfl ?_
    refine V_if_eq (pc := 1) (tgt := 11) C dX4_comeIn_1 (by decide) h (fun h => ?_) (fun h => ?_)
    · refine V_aload_n (pc := 11) C dX4_comeIn_11 rfl 0 rfl ?_
      refine V_getI (pc := 12) C hT f1_X4_2 g485 dX4_comeIn_12 ?_
      refine V_sub [0, 1, 2] rfl ?_
      exact k_X4_comeIn_15 hT hl C hr hnm htab  h
    · refine V_aload_n (pc := 4) C dX4_comeIn_4 rfl 0 rfl ?_
      refine V_getI (pc := 5) C hT f1_X4_1 g484 dX4_comeIn_5 ?_
      refine V_goto (pc := 8) (tgt := 15) C dX4_comeIn_8 (by decide) ?_
      refine V_sub [0, 1, 2] rfl ?_
      exact k_X4_comeIn_15 hT hl C hr hnm htab  h
theorem pl_X4_takeFirst : (parseMethodDescriptor yX4_takeFirst.desc).map (fun d => d.parameters.length) = some 0 := by decide +kernel
def w_X4_takeFirst_28  (Q : Nat → Int32 → Sg → Prop) : Nat → Int32 → Int32 → Int32 → Sg → Prop
  | 0, _, _, _, _ => False
  | n + 1, x0, x1, x2, S => (((S.1 82 (nt x0)) ≤ x2 → (w_J9_max_7cf53 ((S.1 81 (nt x0)) - 1) 0 S (fun k3 v2 S1 => (k3 = 0 → (∀ S4, S4 = su S1 81 (nt x0) v2 → Q 0 x1 S4)) ∧ (¬ k3 = 0 → Q k3 0 S1)))) ∧ (¬ (S.1 82 (nt x0)) ≤ x2 → (¬ S.1 80 (nt x0) < 0 ∧ (¬ S.1 80 (nt x0) < 0 ∧ (vp_in (x2 + 1) 40 ∧ (vp_in x2 40 ∧ (∀ S5, S5 = su S (1001 + 2 * (nt (S.1 80 (nt x0)))) (nt x2) (S.1 (1001 + 2 * (nt (S.1 80 (nt x0)))) (nt (x2 + 1))) → w_X4_takeFirst_28  Q n x0 x1 (x2 + 1) S5)))))))
theorem k_X4_takeFirst_28 (hT : xT X = tb1) (hl : l.stackTraces = false) (C : Cn X k0 p l R s m meth c cX4_takeFirst RX4 3 2 21) (hr : meth.sig.returnType = (some .int)) (hnm : meth.name = yX4_takeFirst.name) (htab : ∀ x ∈ c.exceptionTable.toList, False)  : ∀ n {x0 : Int32} {x1 : Int32} {x2 : Int32} {S : Sg}, w_X4_takeFirst_28  Qa n x0 x1 x2 S → V X p l e R s m args below meth c 3 (QM X below args s S0 ad0 rvI Qa) S0 ad0 S 28 [(0, Value.ref (enc 9 (nt x0))), (1, Value.int x1), (2, Value.int x2)] [] := by
  intro n
  induction n with
  | zero => intro x0 x1 x2 S h; exact h.elim
  | succ n ih =>
    intro x0 x1 x2 S h
    refine V_iload_n (pc := 28) C dX4_takeFirst_28 rfl 2 rfl ?_
    refine V_aload_n (pc := 29) C dX4_takeFirst_29 rfl 0 rfl ?_
    refine V_getI (pc := 30) C hT f1_X4_2 g485 dX4_takeFirst_30 ?_
    refine V_icmp_ge (pc := 33) (tgt := 56) C dX4_takeFirst_33 (by decide) h (fun h => ?_) (fun h => ?_)
    · refine V_aload_n (pc := 56) C dX4_takeFirst_56 rfl 0 rfl ?_
      refine V_aload_n (pc := 57) C dX4_takeFirst_57 rfl 0 rfl ?_
      refine V_getI (pc := 58) C hT f1_X4_1 g484 dX4_takeFirst_58 ?_
      refine V_iconst (pc := 61) C (v := 1) dX4_takeFirst_61 rfl ?_
      refine V_isub (pc := 62) C dX4_takeFirst_62 ?_
      refine V_iconst (pc := 63) C (v := 0) dX4_takeFirst_63 rfl ?_
      refine V_callS (pc := 64) C (ct_J9_max_7cf53 hT hl h) g592 g269 g270 g44 ⟨by decide, by decide, pl_J9_max_7cf53⟩ ⟨by decide, by decide⟩ (rest := [Value.ref (enc 9 (nt x0))]) rfl (le8 rfl) dX4_takeFirst_64 (fun v2 S1 h => ?_) (fun k9 S9 hk h => VX_out C htab hk (h.2 (by omega)))
      replace h := h.1 rfl
      refine V_st (st' := [Value.int v2, Value.ref (enc 9 (nt x0))]) rfl ?_
      refine V_putI (pc := 67) C hT tb1_ok f1_X4_1 (by unfold lc; decide) g484 (Or.inl rfl) (Or.inl rfl) dX4_takeFirst_67 (V_nx fun S4 e9 => ?_)
      replace h := h S4 e9; clear e9
      refine V_iload_n (pc := 70) C dX4_takeFirst_70 rfl 1 rfl ?_
      exact V_iret (pc := 71) C hr rfl h dX4_takeFirst_71
    · refine V_aload_n (pc := 36) C dX4_takeFirst_36 rfl 0 rfl ?_
      refine V_getR (pc := 37) C hT f1_X4_0 (by decide) g483 dX4_takeFirst_37 h (fun h => ?_)
      refine V_iload_n (pc := 40) C dX4_takeFirst_40 rfl 2 rfl ?_
      refine V_aload_n (pc := 41) C dX4_takeFirst_41 rfl 0 rfl ?_
      refine V_getR (pc := 42) C hT f1_X4_0 (by decide) g483 dX4_takeFirst_42 h (fun h => ?_)
      refine V_iload_n (pc := 45) C dX4_takeFirst_45 rfl 2 rfl ?_
      refine V_iconst (pc := 46) C (v := 1) dX4_takeFirst_46 rfl ?_
      refine V_iadd (pc := 47) C dX4_takeFirst_47 ?_
      refine V_ald (pc := 48) C hT tb1_arr h dX4_takeFirst_48 (fun h => ?_)
      refine V_ast2 (pc := 49) C hT tb1_arr h dX4_takeFirst_49 (fun h => V_nx fun S5 e9 => ?_)
      replace h := h S5 e9; clear e9
      refine V_iinc (pc := 50) C (a := 2) (v := x2 + 1) dX4_takeFirst_50 rfl rfl (by decide) rfl ?_
      refine V_goto (pc := 53) (tgt := 28) C dX4_takeFirst_53 (by decide) ?_
      refine V_sub [1, 2, 0] rfl ?_
      exact ih h
def w_X4_takeFirst (a0 : Int32) (S : Sg) (Q : Nat → Int32 → Sg → Prop) : Prop := ((0 < (S.1 82 (nt a0)) → (¬ S.1 80 (nt a0) < 0 ∧ (vp_in 0 40 ∧ (∀ v6, v6 = S.1 (1001 + 2 * (nt (S.1 80 (nt a0)))) (nt 0) → (∀ S7, S7 = su S 82 (nt a0) ((S.1 82 (nt a0)) - 1) → ∃ n9, w_X4_takeFirst_28  Q n9 a0 v6 0 S7))))) ∧ (¬ 0 < (S.1 82 (nt a0)) → Q 0 (-1) S))
theorem ct_X4_takeFirst (hT : xT X = tb1) (hl : l.stackTraces = false) {a0 : Int32} {S : Sg} (h : w_X4_takeFirst a0 S Qa) : CT X k0 l yX4_takeFirst cX4_takeFirst 3 (some .int) 2 21 [Value.ref (enc 9 (nt a0))] rvI S Qa :=
  CT_ofV (own := RX4) (by decide +kernel) (le8 rfl) rfl hl fun p e R s m args below meth c ad0 C hr hnm htab => by
    refine V_aload_n (pc := 0) C dX4_takeFirst_0 rfl 0 rfl ?_
    refine V_getI (pc := 1) C hT f1_X4_2 g485 dX4_takeFirst_1 ?_
    refine V_if_gt (pc := 4) (tgt := 9) C dX4_takeFirst_4 (by decide) h (fun h => ?_) (fun h => ?_)
    · refine V_aload_n (pc := 9) C dX4_takeFirst_9 rfl 0 rfl ?_
      refine V_getR (pc := 10) C hT f1_X4_0 (by decide) g483 dX4_takeFirst_10 h (fun h => ?_)
      refine V_iconst (pc := 13) C (v := 0) dX4_takeFirst_13 rfl ?_
      refine V_ald (pc := 14) C hT tb1_arr h dX4_takeFirst_14 (fun h => ?_)
      refine V_nI fun v6 e9 => ?_
      replace h := h v6 e9; clear e9
      refine V_istore_n (pc := 15) C dX4_takeFirst_15 rfl (by decide) rfl ?_
      refine V_aload_n (pc := 16) C dX4_takeFirst_16 rfl 1 rfl ?_
      refine V_dup (pc := 17) C dX4_takeFirst_17 rfl ?_
      refine V_getI (pc := 18) C hT f1_X4_2 g485 dX4_takeFirst_18 ?_
      refine V_iconst (pc := 21) C (v := 1) dX4_takeFirst_21 rfl ?_
      refine V_isub (pc := 22) C dX4_takeFirst_22 ?_
      refine V_putI (pc := 23) C hT tb1_ok f1_X4_2 (by unfold lc; decide) g485 (Or.inl rfl) (Or.inl rfl) dX4_takeFirst_23 (V_nx fun S7 e9 => ?_)
      replace h := h S7 e9; clear e9
      refine V_iconst (pc := 26) C (v := 0) dX4_takeFirst_26 rfl ?_
      refine V_istore_n (pc := 27) C dX4_takeFirst_27 rfl (by decide) rfl ?_
      refine V_sub [2, 1, 0] rfl ?_
      obtain ⟨n9, h⟩ := h
      exact k_X4_takeFirst_28 hT hl C hr hnm htab  n9 h
    · refine V_iconst (pc := 7) C (v := (-1)) dX4_takeFirst_7 rfl ?_
      exact V_iret (pc := 8) C hr rfl h dX4_takeFirst_8
theorem pl_X4_clearAway : (parseMethodDescriptor yX4_clearAway.desc).map (fun d => d.parameters.length) = some 0 := by decide +kernel
def w_X4_clearAway (a0 : Int32) (S : Sg) (Q : Nat → Int32 → Sg → Prop) : Prop := (∀ S1, S1 = su S 82 (nt a0) 0 → (∀ S2, S2 = su S1 81 (nt a0) 0 → Q 0 0 S2))
theorem ct_X4_clearAway (hT : xT X = tb1) (hl : l.stackTraces = false) {a0 : Int32} {S : Sg} (h : w_X4_clearAway a0 S Qa) : CT X k0 l yX4_clearAway cX4_clearAway 1 none 1 0 [Value.ref (enc 9 (nt a0))] rvV S Qa :=
  CT_ofV (own := RX4) (by decide +kernel) (le8 rfl) rfl hl fun p e R s m args below meth c ad0 C hr hnm htab => by
    refine V_aload_n (pc := 0) C dX4_clearAway_0 rfl 0 rfl ?_
    refine V_iconst (pc := 1) C (v := 0) dX4_clearAway_1 rfl ?_
    refine V_putI (pc := 2) C hT tb1_ok f1_X4_2 (by unfold lc; decide) g485 (Or.inl rfl) (Or.inl rfl) dX4_clearAway_2 (V_nx fun S1 e9 => ?_)
    replace h := h S1 e9; clear e9
    refine V_aload_n (pc := 5) C dX4_clearAway_5 rfl 0 rfl ?_
    refine V_iconst (pc := 6) C (v := 0) dX4_clearAway_6 rfl ?_
    refine V_putI (pc := 7) C hT tb1_ok f1_X4_1 (by unfold lc; decide) g484 (Or.inl rfl) (Or.inl rfl) dX4_clearAway_7 (V_nx fun S2 e9 => ?_)
    replace h := h S2 e9; clear e9
    exact V_vret (pc := 10) C hr rfl h dX4_clearAway_10
theorem pl_J7_fill_53178 : (parseMethodDescriptor yJ7_fill_53178.desc).map (fun d => d.parameters.length) = some 2 := by decide +kernel
def w_J7_fill_53178_5  (Q : Nat → Int32 → Sg → Prop) : Nat → Int32 → Int32 → Int32 → Int32 → Sg → Prop
  | 0, _, _, _, _, _ => False
  | n + 1, x0, x1, x2, x3, S => ((x3 ≤ x2 → Q 0 0 S) ∧ (¬ x3 ≤ x2 → (vp_in x2 (nt (S.1 58 (nt x0))) ∧ (∀ S1, S1 = su S (1000 + 2 * (nt x0)) (nt x2) x1 → w_J7_fill_53178_5  Q n x0 x1 (x2 + 1) x3 S1))))
theorem k_J7_fill_53178_5 (hT : xT X = tb1) (hl : l.stackTraces = false) (C : Cn X k0 p l R s m meth c cJ7_fill_53178 RJ7 4 1 0) (hr : meth.sig.returnType = none) (hnm : meth.name = yJ7_fill_53178.name) (htab : ∀ x ∈ c.exceptionTable.toList, False)  : ∀ n {x0 : Int32} {x1 : Int32} {x2 : Int32} {x3 : Int32} {S : Sg}, w_J7_fill_53178_5  Qa n x0 x1 x2 x3 S → V X p l e R s m args below meth c 4 (QM X below args s S0 ad0 rvV Qa) S0 ad0 S 5 [(0, Value.ref (enc 10 (nt x0))), (1, Value.int x1), (2, Value.int x2), (3, Value.int x3)] [] := by
  intro n
  induction n with
  | zero => intro x0 x1 x2 x3 S h; exact h.elim
  | succ n ih =>
    intro x0 x1 x2 x3 S h
    refine V_iload_n (pc := 5) C dJ7_fill_53178_5 rfl 2 rfl ?_
    refine V_iload_n (pc := 6) C dJ7_fill_53178_6 rfl 3 rfl ?_
    refine V_icmp_ge (pc := 7) (tgt := 20) C dJ7_fill_53178_7 (by decide) h (fun h => ?_) (fun h => ?_)
    · exact V_vret (pc := 20) C hr rfl h dJ7_fill_53178_20
    · refine V_aload_n (pc := 10) C dJ7_fill_53178_10 rfl 0 rfl ?_
      refine V_iload_n (pc := 11) C dJ7_fill_53178_11 rfl 2 rfl ?_
      refine V_iload_n (pc := 12) C dJ7_fill_53178_12 rfl 1 rfl ?_
      refine V_pst (pc := 13) C hT tb1_arr h dJ7_fill_53178_13 (fun h => V_nx fun S1 e9 => ?_)
      replace h := h S1 e9; clear e9
      refine V_iinc (pc := 14) C (a := 2) (v := x2 + 1) dJ7_fill_53178_14 rfl rfl (by decide) rfl ?_
      refine V_goto (pc := 17) (tgt := 5) C dJ7_fill_53178_17 (by decide) ?_
      refine V_sub [1, 2, 0, 3] rfl ?_
      exact ih h
def w_J7_fill_53178 (a0 : Int32) (a1 : Int32) (S : Sg) (Q : Nat → Int32 → Sg → Prop) : Prop := (∀ v2, v2 = nI (nt (S.1 58 (nt a0))) → ∃ n9, w_J7_fill_53178_5  Q n9 a0 a1 0 v2 S)
theorem ct_J7_fill_53178 (hT : xT X = tb1) (hl : l.stackTraces = false) {a0 : Int32} {a1 : Int32} {S : Sg} (h : w_J7_fill_53178 a0 a1 S Qa) : CT X k0 l yJ7_fill_53178 cJ7_fill_53178 4 none 1 0 [Value.ref (enc 10 (nt a0)), Value.int a1] rvV S Qa :=
  CT_ofV (own := RJ7) (by decide +kernel) (le8 rfl) rfl hl fun p e R s m args below meth c ad0 C hr hnm htab => by
    refine V_iconst (pc := 0) C (v := 0) dJ7_fill_53178_0 rfl ?_
    refine V_istore_n (pc := 1) C dJ7_fill_53178_1 rfl (by decide) rfl ?_
    refine V_aload_n (pc := 2) C dJ7_fill_53178_2 rfl 1 rfl ?_
    refine V_plen (pc := 3) C hT tb1_arr dJ7_fill_53178_3 ?_
    refine V_nI fun v2 e9 => ?_
    replace h := h v2 e9; clear e9
    refine V_istore_n (pc := 4) C dJ7_fill_53178_4 rfl (by decide) rfl ?_
    refine V_sub [2, 3, 1, 0] rfl ?_
    obtain ⟨n9, h⟩ := h
    exact k_J7_fill_53178_5 hT hl C hr hnm htab  n9 h
theorem pl_X5_init : (parseMethodDescriptor yX5_init.desc).map (fun d => d.parameters.length) = some 4 := by decide +kernel
def w_X5_init (a0 : Int32) (a1 : Int32) (a2 : Int32) (a3 : Int32) (a4 : Int32) (S : Sg) (Q : Nat → Int32 → Sg → Prop) : Prop := ((S.2.1 + 1 ≤ nB1 ∧ S.2.2 + 3 ≤ nB2) ∧ (∀ v2, v2 = S.1 10 9 → ∀ S1, S1 = nu S 9 3 fdLine → (w_X4_init v2 S1 (fun k5 v4 S3 => (k5 = 0 → (¬ v2 < 0 ∧ (∀ S6, S6 = su S3 55 (nt a0) v2 → (∀ S7, S7 = su S6 56 (nt a0) 0 → (∀ S8, S8 = su S7 57 (nt a0) 0 → (∀ S9, S9 = su S8 50 (nt a0) a1 → (¬ a2 < 0 ∧ (∀ S10, S10 = su S9 51 (nt a0) a2 → (¬ a3 < 0 ∧ (∀ S11, S11 = su S10 52 (nt a0) a3 → (∀ S12, S12 = su S11 53 (nt a0) a4 → ((¬ ((S12.1 21 (nt a3)) * (S12.1 22 (nt a3))) < 0 ∧ nt ((S12.1 21 (nt a3)) * (S12.1 22 (nt a3))) ≤ 65536 ∧ S12.2.1 + 1 ≤ nB1 ∧ S12.2.2 + nt ((S12.1 21 (nt a3)) * (S12.1 22 (nt a3))) ≤ nB2) ∧ (∀ v14, v14 = S12.1 10 10 → ∀ S13, S13 = npl S12 ((S12.1 21 (nt a3)) * (S12.1 22 (nt a3))) → (w_J7_fill_53178 v14 (-1) S13 (fun k17 v16 S15 => (k17 = 0 → (¬ v14 < 0 ∧ (∀ S18, S18 = su S15 54 (nt a0) v14 → Q 0 0 S18))) ∧ (¬ k17 = 0 → Q k17 0 S15)))))))))))))))) ∧ (¬ k5 = 0 → Q k5 0 S3)))))
theorem ct_X5_init (hT : xT X = tb1) (hl : l.stackTraces = false) {a0 : Int32} {a1 : Int32} {a2 : Int32} {a3 : Int32} {a4 : Int32} {S : Sg} (h : w_X5_init a0 a1 a2 a3 a4 S Qa) : CT X k0 l yX5_init cX5_init 6 none 2 32 [Value.ref (enc 6 (nt a0)), Value.int a1, Value.ref (enc 4 (nt a2)), Value.ref (enc 3 (nt a3)), Value.int a4] rvV S Qa :=
  CT_ofV (own := RX5) (by decide +kernel) (le8 rfl) rfl hl fun p e R s m args below meth c ad0 C hr hnm htab => by
    refine V_aload_n (pc := 0) C dX5_init_0 rfl 0 rfl ?_
    refine V_objI (pc := 1) C g476 g62 g63 ⟨by decide, le8 rfl⟩ dX5_init_1 ?_
    refine V_aload_n (pc := 4) C dX5_init_4 rfl 0 rfl ?_
    refine V_newO (pc := 5) (k := 9) (fds := fdLine) C hT tb1_g CF_X4 rfl (by decide) (by decide +kernel) (by decide +kernel) rfl g477 g478 g53 dX5_init_5 h (fun h => V_nR fun v2 e8 => V_nx fun S1 e9 => ?_)
    replace h := h v2 e8 S1 e9; clear e8 e9
    refine V_dup (pc := 8) C dX5_init_8 rfl ?_
    refine V_callIN (pc := 9) C (ct_X4_init hT hl h) nest_ok g480 g481 g53 rfl ⟨by decide, by decide, pl_X4_init⟩ ⟨by decide, by decide⟩ (rest := [Value.ref (enc 9 (nt v2)), Value.ref (enc 6 (nt a0))]) rfl (le8 rfl) dX5_init_9 (fun v4 S3 h => ?_) (fun k9 S9 hk h => VX_out C htab hk (h.2 (by omega)))
    replace h := h.1 rfl
    refine V_st (st' := [Value.ref (enc 9 (nt v2)), Value.ref (enc 6 (nt a0))]) rfl ?_
    refine V_putN (pc := 12) C hT tb1_ok f1_X5_5 (by decide) (by unfold lc; decide) g508 (Or.inr ⟨rfl, hnm, rfl⟩) (Or.inl ⟨_, rfl⟩) dX5_init_12 h (fun h => V_nx fun S6 e9 => ?_)
    replace h := h S6 e9; clear e9
    refine V_aload_n (pc := 15) C dX5_init_15 rfl 0 rfl ?_
    refine V_iconst (pc := 16) C (v := 0) dX5_init_16 rfl ?_
    refine V_putI (pc := 17) C hT tb1_ok f1_X5_6 (by unfold lc; decide) g510 (Or.inl rfl) (Or.inl rfl) dX5_init_17 (V_nx fun S7 e9 => ?_)
    replace h := h S7 e9; clear e9
    refine V_aload_n (pc := 20) C dX5_init_20 rfl 0 rfl ?_
    refine V_iconst (pc := 21) C (v := 0) dX5_init_21 rfl ?_
    refine V_putI (pc := 22) C hT tb1_ok f1_X5_7 (by unfold lc; decide) g512 (Or.inl rfl) (Or.inl rfl) dX5_init_22 (V_nx fun S8 e9 => ?_)
    replace h := h S8 e9; clear e9
    refine V_aload_n (pc := 25) C dX5_init_25 rfl 0 rfl ?_
    refine V_iload_n (pc := 26) C dX5_init_26 rfl 1 rfl ?_
    refine V_putI (pc := 27) C hT tb1_ok f1_X5_0 (by unfold lc; decide) g498 (Or.inr ⟨rfl, hnm, rfl⟩) (Or.inl rfl) dX5_init_27 (V_nx fun S9 e9 => ?_)
    replace h := h S9 e9; clear e9
    refine V_aload_n (pc := 30) C dX5_init_30 rfl 0 rfl ?_
    refine V_aload_n (pc := 31) C dX5_init_31 rfl 2 rfl ?_
    refine V_putN (pc := 32) C hT tb1_ok f1_X5_1 (by decide) (by unfold lc; decide) g500 (Or.inr ⟨rfl, hnm, rfl⟩) (Or.inl ⟨_, rfl⟩) dX5_init_32 h (fun h => V_nx fun S10 e9 => ?_)
    replace h := h S10 e9; clear e9
    refine V_aload_n (pc := 35) C dX5_init_35 rfl 0 rfl ?_
    refine V_aload_n (pc := 36) C dX5_init_36 rfl 3 rfl ?_
    refine V_putN (pc := 37) C hT tb1_ok f1_X5_2 (by decide) (by unfold lc; decide) g502 (Or.inr ⟨rfl, hnm, rfl⟩) (Or.inl ⟨_, rfl⟩) dX5_init_37 h (fun h => V_nx fun S11 e9 => ?_)
    replace h := h S11 e9; clear e9
    refine V_aload_n (pc := 40) C dX5_init_40 rfl 0 rfl ?_
    refine V_iload (pc := 41) C dX5_init_41 4 rfl ?_
    refine V_putI (pc := 43) C hT tb1_ok f1_X5_3 (by unfold lc; decide) g504 (Or.inr ⟨rfl, hnm, rfl⟩) (Or.inl rfl) dX5_init_43 (V_nx fun S12 e9 => ?_)
    replace h := h S12 e9; clear e9
    refine V_aload_n (pc := 46) C dX5_init_46 rfl 3 rfl ?_
    refine V_getI (pc := 47) C hT f1_X1_1 g229 dX5_init_47 ?_
    refine V_aload_n (pc := 50) C dX5_init_50 rfl 3 rfl ?_
    refine V_getI (pc := 51) C hT f1_X1_2 g232 dX5_init_51 ?_
    refine V_imul (pc := 54) C dX5_init_54 ?_
    refine V_newpl (pc := 55) C hT tb1_g g494 dX5_init_55 h (fun h => V_nR fun v14 e8 => V_nx fun S13 e9 => ?_)
    replace h := h v14 e8 S13 e9; clear e8 e9
    refine V_astore (pc := 57) C dX5_init_57 (by decide) rfl ?_
    refine V_aload (pc := 59) C dX5_init_59 0 rfl ?_
    refine V_iconst (pc := 61) C (v := (-1)) dX5_init_61 rfl ?_
    refine V_callS (pc := 62) C (ct_J7_fill_53178 hT hl h) g495 g496 g497 g45 ⟨by decide, by decide, pl_J7_fill_53178⟩ ⟨by decide, by decide⟩ (rest := []) rfl (le8 rfl) dX5_init_62 (fun v16 S15 h => ?_) (fun k9 S9 hk h => VX_out C htab hk (h.2 (by omega)))
    replace h := h.1 rfl
    refine V_st (st' := []) rfl ?_
    refine V_aload_n (pc := 65) C dX5_init_65 rfl 1 rfl ?_
    refine V_aload (pc := 66) C dX5_init_66 0 rfl ?_
    refine V_putN (pc := 68) C hT tb1_ok f1_X5_4 (by decide) (by unfold lc; decide) g506 (Or.inr ⟨rfl, hnm, rfl⟩) (Or.inr ⟨_, rfl⟩) dX5_init_68 h (fun h => V_nx fun S18 e9 => ?_)
    replace h := h S18 e9; clear e9
    exact V_vret (pc := 71) C hr rfl h dX5_init_71
theorem pl_X5_end : (parseMethodDescriptor yX5_end.desc).map (fun d => d.parameters.length) = some 0 := by decide +kernel
def w_X5_end (a0 : Int32) (S : Sg) (Q : Nat → Int32 → Sg → Prop) : Prop := (¬ S.1 51 (nt a0) < 0 ∧ Q 0 ((S.1 53 (nt a0)) + (S.1 31 (nt (S.1 51 (nt a0))))) S)
theorem ct_X5_end (hT : xT X = tb1) (hl : l.stackTraces = false) {a0 : Int32} {S : Sg} (h : w_X5_end a0 S Qa) : CT X k0 l yX5_end cX5_end 1 (some .int) 1 0 [Value.ref (enc 6 (nt a0))] rvI S Qa :=
  CT_ofV (own := RX5) (by decide +kernel) (le8 rfl) rfl hl fun p e R s m args below meth c ad0 C hr hnm htab => by
    refine V_aload_n (pc := 0) C dX5_end_0 rfl 0 rfl ?_
    refine V_getI (pc := 1) C hT f1_X5_3 g504 dX5_end_1 ?_
    refine V_aload_n (pc := 4) C dX5_end_4 rfl 0 rfl ?_
    refine V_getR (pc := 5) C hT f1_X5_1 (by decide) g500 dX5_end_5 h (fun h => ?_)
    refine V_getI (pc := 8) C hT f1_X0_1 g361 dX5_end_8 ?_
    refine V_iadd (pc := 11) C dX5_end_11 ?_
    exact V_iret (pc := 12) C hr rfl h dX5_end_12
theorem pl_X5_week : (parseMethodDescriptor yX5_week.desc).map (fun d => d.parameters.length) = some 0 := by decide +kernel
def w_X5_week (a0 : Int32) (S : Sg) (Q : Nat → Int32 → Sg → Prop) : Prop := Q 0 ((S.1 53 (nt a0)) / 10080) S
theorem ct_X5_week (hT : xT X = tb1) (hl : l.stackTraces = false) {a0 : Int32} {S : Sg} (h : w_X5_week a0 S Qa) : CT X k0 l yX5_week cX5_week 1 (some .int) 1 0 [Value.ref (enc 6 (nt a0))] rvI S Qa :=
  CT_ofV (own := RX5) (by decide +kernel) (le8 rfl) rfl hl fun p e R s m args below meth c ad0 C hr hnm htab => by
    refine V_aload_n (pc := 0) C dX5_week_0 rfl 0 rfl ?_
    refine V_getI (pc := 1) C hT f1_X5_3 g504 dX5_week_1 ?_
    refine V_sipush (pc := 4) C (v := 10080) dX5_week_4 rfl ?_
    refine V_idiv (pc := 7) C dX5_week_7 (by decide) ?_
    exact V_iret (pc := 8) C hr rfl h dX5_week_8
theorem pl_X5_isToCome : (parseMethodDescriptor yX5_isToCome.desc).map (fun d => d.parameters.length) = some 0 := by decide +kernel
def w_X5_isToCome (a0 : Int32) (S : Sg) (Q : Nat → Int32 → Sg → Prop) : Prop := (((S.1 56 (nt a0)) = 0 → Q 0 1 S) ∧ (¬ (S.1 56 (nt a0)) = 0 → (((S.1 56 (nt a0)) = 1 → Q 0 1 S) ∧ (¬ (S.1 56 (nt a0)) = 1 → Q 0 0 S))))
theorem ct_X5_isToCome (hT : xT X = tb1) (hl : l.stackTraces = false) {a0 : Int32} {S : Sg} (h : w_X5_isToCome a0 S Qa) : CT X k0 l yX5_isToCome cX5_isToCome 1 (some .boolean) 1 0 [Value.ref (enc 6 (nt a0))] rvI S Qa :=
  CT_ofV (own := RX5) (by decide +kernel) (le8 rfl) rfl hl fun p e R s m args below meth c ad0 C hr hnm htab => by
    refine V_aload_n (pc := 0) C dX5_isToCome_0 rfl 0 rfl ?_
    refine V_getI (pc := 1) C hT f1_X5_6 g510 dX5_isToCome_1 ?_
    refine V_if_eq (pc := 4) (tgt := 15) C dX5_isToCome_4 (by decide) h (fun h => ?_) (fun h => ?_)
    · refine V_iconst (pc := 15) C (v := 1) dX5_isToCome_15 rfl ?_
      refine V_goto (pc := 16) (tgt := 20) C dX5_isToCome_16 (by decide) ?_
      exact V_zret (pc := 20) C hr (by decide) rfl h dX5_isToCome_20
    · refine V_aload_n (pc := 7) C dX5_isToCome_7 rfl 0 rfl ?_
      refine V_getI (pc := 8) C hT f1_X5_6 g510 dX5_isToCome_8 ?_
      refine V_iconst (pc := 11) C (v := 1) dX5_isToCome_11 rfl ?_
      refine V_icmp_ne (pc := 12) (tgt := 19) C dX5_isToCome_12 (by decide) h (fun h => ?_) (fun h => ?_)
      · refine V_iconst (pc := 19) C (v := 0) dX5_isToCome_19 rfl ?_
        exact V_zret (pc := 20) C hr (by decide) rfl h dX5_isToCome_20
      · refine V_iconst (pc := 15) C (v := 1) dX5_isToCome_15 rfl ?_
        refine V_goto (pc := 16) (tgt := 20) C dX5_isToCome_16 (by decide) ?_
        exact V_zret (pc := 20) C hr (by decide) rfl h dX5_isToCome_20
theorem pl_X5_priceFor : (parseMethodDescriptor yX5_priceFor.desc).map (fun d => d.parameters.length) = some 1 := by decide +kernel
def w_X5_priceFor_28  (Q : Nat → Int32 → Sg → Prop) (x1 : Int32) (x2 : Int32) (S : Sg) : Prop := ((12 ≤ x1 → Q 0 x2 S) ∧ (¬ 12 ≤ x1 → Q 0 (x2 / 2) S))
theorem k_X5_priceFor_28 (hT : xT X = tb1) (hl : l.stackTraces = false) (C : Cn X k0 p l R s m meth c cX5_priceFor RX5 3 1 0) (hr : meth.sig.returnType = (some .int)) (hnm : meth.name = yX5_priceFor.name) (htab : ∀ x ∈ c.exceptionTable.toList, False)  {x1 : Int32} {x2 : Int32} {S : Sg} (h : w_X5_priceFor_28  Qa x1 x2 S) : V X p l e R s m args below meth c 3 (QM X below args s S0 ad0 rvI Qa) S0 ad0 S 28 [(1, Value.int x1), (2, Value.int x2)] [] := by
  refine V_iload_n (pc := 28) C dX5_priceFor_28 rfl 0 rfl ?_
  refine V_bipush (pc := 29) C (v := 12) dX5_priceFor_29 rfl ?_
  refine V_icmp_ge (pc := 31) (tgt := 40) C dX5_priceFor_31 (by decide) h (fun h => ?_) (fun h => ?_)
  · refine V_iload_n (pc := 40) C dX5_priceFor_40 rfl 1 rfl ?_
    exact V_iret (pc := 41) C hr rfl h dX5_priceFor_41
  · refine V_iload_n (pc := 34) C dX5_priceFor_34 rfl 1 rfl ?_
    refine V_iconst (pc := 35) C (v := 2) dX5_priceFor_35 rfl ?_
    refine V_idiv (pc := 36) C dX5_priceFor_36 (by decide) ?_
    refine V_goto (pc := 37) (tgt := 41) C dX5_priceFor_37 (by decide) ?_
    exact V_iret (pc := 41) C hr rfl h dX5_priceFor_41
def w_X5_priceFor (a0 : Int32) (a1 : Int32) (S : Sg) (Q : Nat → Int32 → Sg → Prop) : Prop := (¬ S.1 51 (nt a0) < 0 ∧ (∀ v1, v1 = S.1 33 (nt (S.1 51 (nt a0))) → ((1080 ≤ ((S.1 53 (nt a0)) - (S.1 53 (nt a0)) / 1440 * 1440) → w_X5_priceFor_28  Q a1 v1 S) ∧ (¬ 1080 ≤ ((S.1 53 (nt a0)) - (S.1 53 (nt a0)) / 1440 * 1440) → (∀ v2, v2 = (v1 * 3) / 4 → w_X5_priceFor_28  Q a1 v2 S)))))
theorem ct_X5_priceFor (hT : xT X = tb1) (hl : l.stackTraces = false) {a0 : Int32} {a1 : Int32} {S : Sg} (h : w_X5_priceFor a0 a1 S Qa) : CT X k0 l yX5_priceFor cX5_priceFor 3 (some .int) 1 0 [Value.ref (enc 6 (nt a0)), Value.int a1] rvI S Qa :=
  CT_ofV (own := RX5) (by decide +kernel) (le8 rfl) rfl hl fun p e R s m args below meth c ad0 C hr hnm htab => by
    refine V_aload_n (pc := 0) C dX5_priceFor_0 rfl 0 rfl ?_
    refine V_getR (pc := 1) C hT f1_X5_1 (by decide) g500 dX5_priceFor_1 h (fun h => ?_)
    refine V_getI (pc := 4) C hT f1_X0_3 g366 dX5_priceFor_4 ?_
    refine V_nI fun v1 e9 => ?_
    replace h := h v1 e9; clear e9
    refine V_istore_n (pc := 7) C dX5_priceFor_7 rfl (by decide) rfl ?_
    refine V_aload_n (pc := 8) C dX5_priceFor_8 rfl 1 rfl ?_
    refine V_getI (pc := 9) C hT f1_X5_3 g504 dX5_priceFor_9 ?_
    refine V_sipush (pc := 12) C (v := 1440) dX5_priceFor_12 rfl ?_
    refine V_irem (pc := 15) C dX5_priceFor_15 (by decide) ?_
    refine V_sipush (pc := 16) C (v := 1080) dX5_priceFor_16 rfl ?_
    refine V_icmp_ge (pc := 19) (tgt := 28) C dX5_priceFor_19 (by decide) h (fun h => ?_) (fun h => ?_)
    · refine V_sub [2, 0] rfl ?_
      exact k_X5_priceFor_28 hT hl C hr hnm htab  h
    · refine V_iload_n (pc := 22) C dX5_priceFor_22 rfl 0 rfl ?_
      refine V_iconst (pc := 23) C (v := 3) dX5_priceFor_23 rfl ?_
      refine V_imul (pc := 24) C dX5_priceFor_24 ?_
      refine V_iconst (pc := 25) C (v := 4) dX5_priceFor_25 rfl ?_
      refine V_idiv (pc := 26) C dX5_priceFor_26 (by decide) ?_
      refine V_nI fun v2 e9 => ?_
      replace h := h v2 e9; clear e9
      refine V_istore_n (pc := 27) C dX5_priceFor_27 rfl (by decide) rfl ?_
      refine V_sub [2, 0] rfl ?_
      exact k_X5_priceFor_28 hT hl C hr hnm htab  h
theorem pl_X5_rowOf : (parseMethodDescriptor yX5_rowOf.desc).map (fun d => d.parameters.length) = some 1 := by decide +kernel
def w_X5_rowOf (a0 : Int32) (a1 : Int32) (S : Sg) (Q : Nat → Int32 → Sg → Prop) : Prop := (¬ S.1 52 (nt a0) < 0 ∧ (w_J9_max_7cf53 (S.1 22 (nt (S.1 52 (nt a0)))) 1 S (fun k3 v2 S1 => (k3 = 0 → (¬ v2 = 0 ∧ Q 0 (a1 / v2) S1)) ∧ (¬ k3 = 0 → Q k3 0 S1))))
theorem ct_X5_rowOf (hT : xT X = tb1) (hl : l.stackTraces = false) {a0 : Int32} {a1 : Int32} {S : Sg} (h : w_X5_rowOf a0 a1 S Qa) : CT X k0 l yX5_rowOf cX5_rowOf 2 (some .int) 2 21 [Value.ref (enc 6 (nt a0)), Value.int a1] rvI S Qa :=
  CT_ofV (own := RX5) (by decide +kernel) (le8 rfl) rfl hl fun p e R s m args below meth c ad0 C hr hnm htab => by
    refine V_iload_n (pc := 0) C dX5_rowOf_0 rfl 1 rfl ?_
    refine V_aload_n (pc := 1) C dX5_rowOf_1 rfl 0 rfl ?_
    refine V_getR (pc := 2) C hT f1_X5_2 (by decide) g502 dX5_rowOf_2 h (fun h => ?_)
    refine V_getI (pc := 5) C hT f1_X1_2 g232 dX5_rowOf_5 ?_
    refine V_iconst (pc := 8) C (v := 1) dX5_rowOf_8 rfl ?_
    refine V_callS (pc := 9) C (ct_J9_max_7cf53 hT hl h) g875 g269 g270 g44 ⟨by decide, by decide, pl_J9_max_7cf53⟩ ⟨by decide, by decide⟩ (rest := [Value.int a1]) rfl (le8 rfl) dX5_rowOf_9 (fun v2 S1 h => ?_) (fun k9 S9 hk h => VX_out C htab hk (h.2 (by omega)))
    replace h := h.1 rfl
    refine V_st (st' := [Value.int v2, Value.int a1]) rfl ?_
    refine V_idiv (pc := 12) C dX5_rowOf_12 h.1 ?_
    replace h := h.2
    exact V_iret (pc := 13) C hr rfl h dX5_rowOf_13
theorem pl_X5_seatOf : (parseMethodDescriptor yX5_seatOf.desc).map (fun d => d.parameters.length) = some 1 := by decide +kernel
def w_X5_seatOf (a0 : Int32) (a1 : Int32) (S : Sg) (Q : Nat → Int32 → Sg → Prop) : Prop := (¬ S.1 52 (nt a0) < 0 ∧ (w_J9_max_7cf53 (S.1 22 (nt (S.1 52 (nt a0)))) 1 S (fun k3 v2 S1 => (k3 = 0 → (¬ v2 = 0 ∧ Q 0 (a1 - a1 / v2 * v2) S1)) ∧ (¬ k3 = 0 → Q k3 0 S1))))
theorem ct_X5_seatOf (hT : xT X = tb1) (hl : l.stackTraces = false) {a0 : Int32} {a1 : Int32} {S : Sg} (h : w_X5_seatOf a0 a1 S Qa) : CT X k0 l yX5_seatOf cX5_seatOf 2 (some .int) 2 21 [Value.ref (enc 6 (nt a0)), Value.int a1] rvI S Qa :=
  CT_ofV (own := RX5) (by decide +kernel) (le8 rfl) rfl hl fun p e R s m args below meth c ad0 C hr hnm htab => by
    refine V_iload_n (pc := 0) C dX5_seatOf_0 rfl 1 rfl ?_
    refine V_aload_n (pc := 1) C dX5_seatOf_1 rfl 0 rfl ?_
    refine V_getR (pc := 2) C hT f1_X5_2 (by decide) g502 dX5_seatOf_2 h (fun h => ?_)
    refine V_getI (pc := 5) C hT f1_X1_2 g232 dX5_seatOf_5 ?_
    refine V_iconst (pc := 8) C (v := 1) dX5_seatOf_8 rfl ?_
    refine V_callS (pc := 9) C (ct_J9_max_7cf53 hT hl h) g875 g269 g270 g44 ⟨by decide, by decide, pl_J9_max_7cf53⟩ ⟨by decide, by decide⟩ (rest := [Value.int a1]) rfl (le8 rfl) dX5_seatOf_9 (fun v2 S1 h => ?_) (fun k9 S9 hk h => VX_out C htab hk (h.2 (by omega)))
    replace h := h.1 rfl
    refine V_st (st' := [Value.int v2, Value.int a1]) rfl ?_
    refine V_irem (pc := 12) C dX5_seatOf_12 h.1 ?_
    replace h := h.2
    exact V_iret (pc := 13) C hr rfl h dX5_seatOf_13
theorem pl_X5_countFree : (parseMethodDescriptor yX5_countFree.desc).map (fun d => d.parameters.length) = some 0 := by decide +kernel
def w_X5_countFree_26 (k4 : Int32 → Int32 → Int32 → Sg → Prop) (Q : Nat → Int32 → Sg → Prop) (x0 : Int32) (x1 : Int32) (x2 : Int32) (S : Sg) : Prop := k4 x0 x1 (x2 + 1) S
theorem k_X5_countFree_26 (hT : xT X = tb1) (hl : l.stackTraces = false) (C : Cn X k0 p l R s m meth c cX5_countFree RX5 3 1 0) (hr : meth.sig.returnType = (some .int)) (hnm : meth.name = yX5_countFree.name) (htab : ∀ x ∈ c.exceptionTable.toList, False) {k4 : Int32 → Int32 → Int32 → Sg → Prop} (hk4 : ∀ {x0 : Int32} {x1 : Int32} {x2 : Int32} {S : Sg}, k4 x0 x1 x2 S → V X p l e R s m args below meth c 3 (QM X below args s S0 ad0 rvI Qa) S0 ad0 S 4 [(0, Value.ref (enc 6 (nt x0))), (1, Value.int x1), (2, Value.int x2)] []) {x0 : Int32} {x1 : Int32} {x2 : Int32} {S : Sg} (h : w_X5_countFree_26 k4 Qa x0 x1 x2 S) : V X p l e R s m args below meth c 3 (QM X below args s S0 ad0 rvI Qa) S0 ad0 S 26 [(0, Value.ref (enc 6 (nt x0))), (1, Value.int x1), (2, Value.int x2)] [] := by
  refine V_iinc (pc := 26) C (a := 2) (v := x2 + 1) dX5_countFree_26 rfl rfl (by decide) rfl ?_
  refine V_goto (pc := 29) (tgt := 4) C dX5_countFree_29 (by decide) ?_
  refine V_sub [1, 2, 0] rfl ?_
  exact hk4 h
def w_X5_countFree_4  (Q : Nat → Int32 → Sg → Prop) : Nat → Int32 → Int32 → Int32 → Sg → Prop
  | 0, _, _, _, _ => False
  | n + 1, x0, x1, x2, S => (¬ S.1 54 (nt x0) < 0 ∧ (((nI (nt (S.1 58 (nt (S.1 54 (nt x0)))))) ≤ x2 → Q 0 x1 S) ∧ (¬ (nI (nt (S.1 58 (nt (S.1 54 (nt x0)))))) ≤ x2 → (¬ S.1 54 (nt x0) < 0 ∧ (vp_in x2 (nt (S.1 58 (nt (S.1 54 (nt x0))))) ∧ (((S.1 (1000 + 2 * (nt (S.1 54 (nt x0)))) (nt x2)) = (-1) → w_X5_countFree_26 (fun x0 x1 x2 S => w_X5_countFree_4  Q n x0 x1 x2 S) Q x0 (x1 + 1) x2 S) ∧ (¬ (S.1 (1000 + 2 * (nt (S.1 54 (nt x0)))) (nt x2)) = (-1) → w_X5_countFree_26 (fun x0 x1 x2 S => w_X5_countFree_4  Q n x0 x1 x2 S) Q x0 x1 x2 S)))))))
theorem k_X5_countFree_4 (hT : xT X = tb1) (hl : l.stackTraces = false) (C : Cn X k0 p l R s m meth c cX5_countFree RX5 3 1 0) (hr : meth.sig.returnType = (some .int)) (hnm : meth.name = yX5_countFree.name) (htab : ∀ x ∈ c.exceptionTable.toList, False)  : ∀ n {x0 : Int32} {x1 : Int32} {x2 : Int32} {S : Sg}, w_X5_countFree_4  Qa n x0 x1 x2 S → V X p l e R s m args below meth c 3 (QM X below args s S0 ad0 rvI Qa) S0 ad0 S 4 [(0, Value.ref (enc 6 (nt x0))), (1, Value.int x1), (2, Value.int x2)] [] := by
  intro n
  induction n with
  | zero => intro x0 x1 x2 S h; exact h.elim
  | succ n ih =>
    intro x0 x1 x2 S h
    refine V_iload_n (pc := 4) C dX5_countFree_4 rfl 2 rfl ?_
    refine V_aload_n (pc := 5) C dX5_countFree_5 rfl 0 rfl ?_
    refine V_getR (pc := 6) C hT f1_X5_4 (by decide) g506 dX5_countFree_6 h (fun h => ?_)
    refine V_plen (pc := 9) C hT tb1_arr dX5_countFree_9 ?_
    refine V_icmp_ge (pc := 10) (tgt := 32) C dX5_countFree_10 (by decide) h (fun h => ?_) (fun h => ?_)
    · refine V_iload_n (pc := 32) C dX5_countFree_32 rfl 1 rfl ?_
      exact V_iret (pc := 33) C hr rfl h dX5_countFree_33
    · refine V_aload_n (pc := 13) C dX5_countFree_13 rfl 0 rfl ?_
      refine V_getR (pc := 14) C hT f1_X5_4 (by decide) g506 dX5_countFree_14 h (fun h => ?_)
      refine V_iload_n (pc := 17) C dX5_countFree_17 rfl 2 rfl ?_
      refine V_pld (pc := 18) C hT tb1_arr h dX5_countFree_18 (fun h => ?_)
      refine V_iconst (pc := 19) C (v := (-1)) dX5_countFree_19 rfl ?_
      refine V_icmp_ne (pc := 20) (tgt := 26) C dX5_countFree_20 (by decide) h (fun h => ?_) (fun h => ?_)
      · refine V_sub [0, 1, 2] rfl ?_
        exact k_X5_countFree_26 hT hl C hr hnm htab (fun h => ih h) h
      · refine V_iinc (pc := 23) C (a := 1) (v := x1 + 1) dX5_countFree_23 rfl rfl (by decide) rfl ?_
        refine V_sub [1, 0, 2] rfl ?_
        exact k_X5_countFree_26 hT hl C hr hnm htab (fun h => ih h) h
def w_X5_countFree (a0 : Int32) (S : Sg) (Q : Nat → Int32 → Sg → Prop) : Prop := ∃ n9, w_X5_countFree_4  Q n9 a0 0 0 S
theorem ct_X5_countFree (hT : xT X = tb1) (hl : l.stackTraces = false) {a0 : Int32} {S : Sg} (h : w_X5_countFree a0 S Qa) : CT X k0 l yX5_countFree cX5_countFree 3 (some .int) 1 0 [Value.ref (enc 6 (nt a0))] rvI S Qa :=
  CT_ofV (own := RX5) (by decide +kernel) (le8 rfl) rfl hl fun p e R s m args below meth c ad0 C hr hnm htab => by
    refine V_iconst (pc := 0) C (v := 0) dX5_countFree_0 rfl ?_
    refine V_istore_n (pc := 1) C dX5_countFree_1 rfl (by decide) rfl ?_
    refine V_iconst (pc := 2) C (v := 0) dX5_countFree_2 rfl ?_
    refine V_istore_n (pc := 3) C dX5_countFree_3 rfl (by decide) rfl ?_
    refine V_sub [2, 1, 0] rfl ?_
    obtain ⟨n9, h⟩ := h
    exact k_X5_countFree_4 hT hl C hr hnm htab  n9 h
theorem pl_X5_countHeld : (parseMethodDescriptor yX5_countHeld.desc).map (fun d => d.parameters.length) = some 0 := by decide +kernel
def w_X5_countHeld_28 (k4 : Int32 → Int32 → Int32 → Sg → Prop) (Q : Nat → Int32 → Sg → Prop) (x0 : Int32) (x1 : Int32) (x2 : Int32) (S : Sg) : Prop := k4 x0 x1 (x2 + 1) S
theorem k_X5_countHeld_28 (hT : xT X = tb1) (hl : l.stackTraces = false) (C : Cn X k0 p l R s m meth c cX5_countHeld RX5 3 1 0) (hr : meth.sig.returnType = (some .int)) (hnm : meth.name = yX5_countHeld.name) (htab : ∀ x ∈ c.exceptionTable.toList, False) {k4 : Int32 → Int32 → Int32 → Sg → Prop} (hk4 : ∀ {x0 : Int32} {x1 : Int32} {x2 : Int32} {S : Sg}, k4 x0 x1 x2 S → V X p l e R s m args below meth c 3 (QM X below args s S0 ad0 rvI Qa) S0 ad0 S 4 [(0, Value.ref (enc 6 (nt x0))), (1, Value.int x1), (2, Value.int x2)] []) {x0 : Int32} {x1 : Int32} {x2 : Int32} {S : Sg} (h : w_X5_countHeld_28 k4 Qa x0 x1 x2 S) : V X p l e R s m args below meth c 3 (QM X below args s S0 ad0 rvI Qa) S0 ad0 S 28 [(0, Value.ref (enc 6 (nt x0))), (1, Value.int x1), (2, Value.int x2)] [] := by
  refine V_iinc (pc := 28) C (a := 2) (v := x2 + 1) dX5_countHeld_28 rfl rfl (by decide) rfl ?_
  refine V_goto (pc := 31) (tgt := 4) C dX5_countHeld_31 (by decide) ?_
  refine V_sub [1, 2, 0] rfl ?_
  exact hk4 h
def w_X5_countHeld_4  (Q : Nat → Int32 → Sg → Prop) : Nat → Int32 → Int32 → Int32 → Sg → Prop
  | 0, _, _, _, _ => False
  | n + 1, x0, x1, x2, S => (¬ S.1 54 (nt x0) < 0 ∧ (((nI (nt (S.1 58 (nt (S.1 54 (nt x0)))))) ≤ x2 → Q 0 x1 S) ∧ (¬ (nI (nt (S.1 58 (nt (S.1 54 (nt x0)))))) ≤ x2 → (¬ S.1 54 (nt x0) < 0 ∧ (vp_in x2 (nt (S.1 58 (nt (S.1 54 (nt x0))))) ∧ (((S.1 (1000 + 2 * (nt (S.1 54 (nt x0)))) (nt x2)) < 1000 → w_X5_countHeld_28 (fun x0 x1 x2 S => w_X5_countHeld_4  Q n x0 x1 x2 S) Q x0 x1 x2 S) ∧ (¬ (S.1 (1000 + 2 * (nt (S.1 54 (nt x0)))) (nt x2)) < 1000 → w_X5_countHeld_28 (fun x0 x1 x2 S => w_X5_countHeld_4  Q n x0 x1 x2 S) Q x0 (x1 + 1) x2 S)))))))
theorem k_X5_countHeld_4 (hT : xT X = tb1) (hl : l.stackTraces = false) (C : Cn X k0 p l R s m meth c cX5_countHeld RX5 3 1 0) (hr : meth.sig.returnType = (some .int)) (hnm : meth.name = yX5_countHeld.name) (htab : ∀ x ∈ c.exceptionTable.toList, False)  : ∀ n {x0 : Int32} {x1 : Int32} {x2 : Int32} {S : Sg}, w_X5_countHeld_4  Qa n x0 x1 x2 S → V X p l e R s m args below meth c 3 (QM X below args s S0 ad0 rvI Qa) S0 ad0 S 4 [(0, Value.ref (enc 6 (nt x0))), (1, Value.int x1), (2, Value.int x2)] [] := by
  intro n
  induction n with
  | zero => intro x0 x1 x2 S h; exact h.elim
  | succ n ih =>
    intro x0 x1 x2 S h
    refine V_iload_n (pc := 4) C dX5_countHeld_4 rfl 2 rfl ?_
    refine V_aload_n (pc := 5) C dX5_countHeld_5 rfl 0 rfl ?_
    refine V_getR (pc := 6) C hT f1_X5_4 (by decide) g506 dX5_countHeld_6 h (fun h => ?_)
    refine V_plen (pc := 9) C hT tb1_arr dX5_countHeld_9 ?_
    refine V_icmp_ge (pc := 10) (tgt := 34) C dX5_countHeld_10 (by decide) h (fun h => ?_) (fun h => ?_)
    · refine V_iload_n (pc := 34) C dX5_countHeld_34 rfl 1 rfl ?_
      exact V_iret (pc := 35) C hr rfl h dX5_countHeld_35
    · refine V_aload_n (pc := 13) C dX5_countHeld_13 rfl 0 rfl ?_
      refine V_getR (pc := 14) C hT f1_X5_4 (by decide) g506 dX5_countHeld_14 h (fun h => ?_)
      refine V_iload_n (pc := 17) C dX5_countHeld_17 rfl 2 rfl ?_
      refine V_pld (pc := 18) C hT tb1_arr h dX5_countHeld_18 (fun h => ?_)
      refine V_sipush (pc := 19) C (v := 1000) dX5_countHeld_19 rfl ?_
      refine V_icmp_lt (pc := 22) (tgt := 28) C dX5_countHeld_22 (by decide) h (fun h => ?_) (fun h => ?_)
      · refine V_sub [0, 1, 2] rfl ?_
        exact k_X5_countHeld_28 hT hl C hr hnm htab (fun h => ih h) h
      · refine V_iinc (pc := 25) C (a := 1) (v := x1 + 1) dX5_countHeld_25 rfl rfl (by decide) rfl ?_
        refine V_sub [1, 0, 2] rfl ?_
        exact k_X5_countHeld_28 hT hl C hr hnm htab (fun h => ih h) h
def w_X5_countHeld (a0 : Int32) (S : Sg) (Q : Nat → Int32 → Sg → Prop) : Prop := ∃ n9, w_X5_countHeld_4  Q n9 a0 0 0 S
theorem ct_X5_countHeld (hT : xT X = tb1) (hl : l.stackTraces = false) {a0 : Int32} {S : Sg} (h : w_X5_countHeld a0 S Qa) : CT X k0 l yX5_countHeld cX5_countHeld 3 (some .int) 1 0 [Value.ref (enc 6 (nt a0))] rvI S Qa :=
  CT_ofV (own := RX5) (by decide +kernel) (le8 rfl) rfl hl fun p e R s m args below meth c ad0 C hr hnm htab => by
    refine V_iconst (pc := 0) C (v := 0) dX5_countHeld_0 rfl ?_
    refine V_istore_n (pc := 1) C dX5_countHeld_1 rfl (by decide) rfl ?_
    refine V_iconst (pc := 2) C (v := 0) dX5_countHeld_2 rfl ?_
    refine V_istore_n (pc := 3) C dX5_countHeld_3 rfl (by decide) rfl ?_
    refine V_sub [2, 1, 0] rfl ?_
    obtain ⟨n9, h⟩ := h
    exact k_X5_countHeld_4 hT hl C hr hnm htab  n9 h
theorem pl_X5_countSold : (parseMethodDescriptor yX5_countSold.desc).map (fun d => d.parameters.length) = some 0 := by decide +kernel
def w_X5_countSold (a0 : Int32) (S : Sg) (Q : Nat → Int32 → Sg → Prop) : Prop := (¬ S.1 54 (nt a0) < 0 ∧ (w_X5_countFree a0 S (fun k3 v2 S1 => (k3 = 0 → (w_X5_countHeld a0 S1 (fun k6 v5 S4 => (k6 = 0 → Q 0 (((nI (nt (S.1 58 (nt (S.1 54 (nt a0)))))) - v2) - v5) S4) ∧ (¬ k6 = 0 → Q k6 0 S4)))) ∧ (¬ k3 = 0 → Q k3 0 S1))))
theorem ct_X5_countSold (hT : xT X = tb1) (hl : l.stackTraces = false) {a0 : Int32} {S : Sg} (h : w_X5_countSold a0 S Qa) : CT X k0 l yX5_countSold cX5_countSold 1 (some .int) 2 22 [Value.ref (enc 6 (nt a0))] rvI S Qa :=
  CT_ofV (own := RX5) (by decide +kernel) (le8 rfl) rfl hl fun p e R s m args below meth c ad0 C hr hnm htab => by
    refine V_aload_n (pc := 0) C dX5_countSold_0 rfl 0 rfl ?_
    refine V_getR (pc := 1) C hT f1_X5_4 (by decide) g506 dX5_countSold_1 h (fun h => ?_)
    refine V_plen (pc := 4) C hT tb1_arr dX5_countSold_4 ?_
    refine V_aload_n (pc := 5) C dX5_countSold_5 rfl 0 rfl ?_
    refine V_callV (pc := 6) C (ct_X5_countFree hT hl h) g819 g739 g740 g741 g52 ⟨by decide, by decide, pl_X5_countFree⟩ (enc_ne63 (by decide)) (ct_obj hT rfl (by decide)) rfl ⟨by decide, by decide⟩ (rest := [Value.int (nI (nt (S.1 58 (nt (S.1 54 (nt a0))))))]) rfl (le8 rfl) dX5_countSold_6 (fun v2 S1 h => ?_) (fun k9 S9 hk h => VX_out C htab hk (h.2 (by omega)))
    replace h := h.1 rfl
    refine V_st (st' := [Value.int v2, Value.int (nI (nt (S.1 58 (nt (S.1 54 (nt a0))))))]) rfl ?_
    refine V_isub (pc := 9) C dX5_countSold_9 ?_
    refine V_aload_n (pc := 10) C dX5_countSold_10 rfl 0 rfl ?_
    refine V_callV (pc := 11) C (ct_X5_countHeld hT hl h) g820 g821 g822 g823 g52 ⟨by decide, by decide, pl_X5_countHeld⟩ (enc_ne63 (by decide)) (ct_obj hT rfl (by decide)) rfl ⟨by decide, by decide⟩ (rest := [Value.int ((nI (nt (S.1 58 (nt (S.1 54 (nt a0)))))) - v2)]) rfl (le8 rfl) dX5_countSold_11 (fun v5 S4 h => ?_) (fun k9 S9 hk h => VX_out C htab hk (h.2 (by omega)))
    replace h := h.1 rfl
    refine V_st (st' := [Value.int v5, Value.int ((nI (nt (S.1 58 (nt (S.1 54 (nt a0)))))) - v2)]) rfl ?_
    refine V_isub (pc := 14) C dX5_countSold_14 ?_
    exact V_iret (pc := 15) C hr rfl h dX5_countSold_15
theorem pl_X5_clearPlaces : (parseMethodDescriptor yX5_clearPlaces.desc).map (fun d => d.parameters.length) = some 0 := by decide +kernel
def w_X5_clearPlaces (a0 : Int32) (S : Sg) (Q : Nat → Int32 → Sg → Prop) : Prop := (¬ S.1 54 (nt a0) < 0 ∧ (w_J7_fill_53178 (S.1 54 (nt a0)) (-1) S (fun k3 v2 S1 => (k3 = 0 → Q 0 0 S1) ∧ (¬ k3 = 0 → Q k3 0 S1))))
theorem ct_X5_clearPlaces (hT : xT X = tb1) (hl : l.stackTraces = false) {a0 : Int32} {S : Sg} (h : w_X5_clearPlaces a0 S Qa) : CT X k0 l yX5_clearPlaces cX5_clearPlaces 1 none 2 23 [Value.ref (enc 6 (nt a0))] rvV S Qa :=
  CT_ofV (own := RX5) (by decide +kernel) (le8 rfl) rfl hl fun p e R s m args below meth c ad0 C hr hnm htab => by
    refine V_aload_n (pc := 0) C dX5_clearPlaces_0 rfl 0 rfl ?_
    refine V_getR (pc := 1) C hT f1_X5_4 (by decide) g506 dX5_clearPlaces_1 h (fun h => ?_)
    refine V_iconst (pc := 4) C (v := (-1)) dX5_clearPlaces_4 rfl ?_
    refine V_callS (pc := 5) C (ct_J7_fill_53178 hT hl h) g495 g496 g497 g45 ⟨by decide, by decide, pl_J7_fill_53178⟩ ⟨by decide, by decide⟩ (rest := []) rfl (le8 rfl) dX5_clearPlaces_5 (fun v2 S1 h => ?_) (fun k9 S9 hk h => VX_out C htab hk (h.2 (by omega)))
    replace h := h.1 rfl
    refine V_st (st' := []) rfl ?_
    exact V_vret (pc := 8) C hr rfl h dX5_clearPlaces_8
theorem pl_X5_areFree : (parseMethodDescriptor yX5_areFree.desc).map (fun d => d.parameters.length) = some 2 := by decide +kernel
def w_X5_areFree_2  (Q : Nat → Int32 → Sg → Prop) : Nat → Int32 → Int32 → Int32 → Int32 → Sg → Prop
  | 0, _, _, _, _, _ => False
  | n + 1, x0, x1, x2, x3, S => (((x1 + x2) ≤ x3 → Q 0 1 S) ∧ (¬ (x1 + x2) ≤ x3 → (¬ S.1 54 (nt x0) < 0 ∧ (((nI (nt (S.1 58 (nt (S.1 54 (nt x0)))))) ≤ x3 → Q 0 0 S) ∧ (¬ (nI (nt (S.1 58 (nt (S.1 54 (nt x0)))))) ≤ x3 → (¬ S.1 54 (nt x0) < 0 ∧ (vp_in x3 (nt (S.1 58 (nt (S.1 54 (nt x0))))) ∧ (((S.1 (1000 + 2 * (nt (S.1 54 (nt x0)))) (nt x3)) = (-1) → w_X5_areFree_2  Q n x0 x1 x2 (x3 + 1) S) ∧ (¬ (S.1 (1000 + 2 * (nt (S.1 54 (nt x0)))) (nt x3)) = (-1) → Q 0 0 S)))))))))
theorem k_X5_areFree_2 (hT : xT X = tb1) (hl : l.stackTraces = false) (C : Cn X k0 p l R s m meth c cX5_areFree RX5 4 1 0) (hr : meth.sig.returnType = (some .boolean)) (hnm : meth.name = yX5_areFree.name) (htab : ∀ x ∈ c.exceptionTable.toList, False)  : ∀ n {x0 : Int32} {x1 : Int32} {x2 : Int32} {x3 : Int32} {S : Sg}, w_X5_areFree_2  Qa n x0 x1 x2 x3 S → V X p l e R s m args below meth c 4 (QM X below args s S0 ad0 rvI Qa) S0 ad0 S 2 [(0, Value.ref (enc 6 (nt x0))), (1, Value.int x1), (2, Value.int x2), (3, Value.int x3)] [] := by
  intro n
  induction n with
  | zero => intro x0 x1 x2 x3 S h; exact h.elim
  | succ n ih =>
    intro x0 x1 x2 x3 S h
    refine V_iload_n (pc := 2) C dX5_areFree_2 rfl 3 rfl ?_
    refine V_iload_n (pc := 3) C dX5_areFree_3 rfl 1 rfl ?_
    refine V_iload_n (pc := 4) C dX5_areFree_4 rfl 2 rfl ?_
    refine V_iadd (pc := 5) C dX5_areFree_5 ?_
    refine V_icmp_ge (pc := 6) (tgt := 36) C dX5_areFree_6 (by decide) h (fun h => ?_) (fun h => ?_)
    · refine V_iconst (pc := 36) C (v := 1) dX5_areFree_36 rfl ?_
      exact V_zret (pc := 37) C hr (by decide) rfl h dX5_areFree_37
    · refine V_iload_n (pc := 9) C dX5_areFree_9 rfl 3 rfl ?_
      refine V_aload_n (pc := 10) C dX5_areFree_10 rfl 0 rfl ?_
      refine V_getR (pc := 11) C hT f1_X5_4 (by decide) g506 dX5_areFree_11 h (fun h => ?_)
      refine V_plen (pc := 14) C hT tb1_arr dX5_areFree_14 ?_
      refine V_icmp_ge (pc := 15) (tgt := 28) C dX5_areFree_15 (by decide) h (fun h => ?_) (fun h => ?_)
      · refine V_iconst (pc := 28) C (v := 0) dX5_areFree_28 rfl ?_
        exact V_zret (pc := 29) C hr (by decide) rfl h dX5_areFree_29
      · refine V_aload_n (pc := 18) C dX5_areFree_18 rfl 0 rfl ?_
        refine V_getR (pc := 19) C hT f1_X5_4 (by decide) g506 dX5_areFree_19 h (fun h => ?_)
        refine V_iload_n (pc := 22) C dX5_areFree_22 rfl 3 rfl ?_
        refine V_pld (pc := 23) C hT tb1_arr h dX5_areFree_23 (fun h => ?_)
        refine V_iconst (pc := 24) C (v := (-1)) dX5_areFree_24 rfl ?_
        refine V_icmp_eq (pc := 25) (tgt := 30) C dX5_areFree_25 (by decide) h (fun h => ?_) (fun h => ?_)
        · refine V_iinc (pc := 30) C (a := 3) (v := x3 + 1) dX5_areFree_30 rfl rfl (by decide) rfl ?_
          refine V_goto (pc := 33) (tgt := 2) C dX5_areFree_33 (by decide) ?_
          refine V_sub [1, 2, 3, 0] rfl ?_
          exact ih h
        · refine V_iconst (pc := 28) C (v := 0) dX5_areFree_28 rfl ?_
          exact V_zret (pc := 29) C hr (by decide) rfl h dX5_areFree_29
def w_X5_areFree (a0 : Int32) (a1 : Int32) (a2 : Int32) (S : Sg) (Q : Nat → Int32 → Sg → Prop) : Prop := ∃ n9, w_X5_areFree_2  Q n9 a0 a1 a2 a1 S
theorem ct_X5_areFree (hT : xT X = tb1) (hl : l.stackTraces = false) {a0 : Int32} {a1 : Int32} {a2 : Int32} {S : Sg} (h : w_X5_areFree a0 a1 a2 S Qa) : CT X k0 l yX5_areFree cX5_areFree 4 (some .boolean) 1 0 [Value.ref (enc 6 (nt a0)), Value.int a1, Value.int a2] rvI S Qa :=
  CT_ofV (own := RX5) (by decide +kernel) (le8 rfl) rfl hl fun p e R s m args below meth c ad0 C hr hnm htab => by
    refine V_iload_n (pc := 0) C dX5_areFree_0 rfl 1 rfl ?_
    refine V_istore_n (pc := 1) C dX5_areFree_1 rfl (by decide) rfl ?_
    refine V_sub [1, 2, 3, 0] rfl ?_
    obtain ⟨n9, h⟩ := h
    exact k_X5_areFree_2 hT hl C hr hnm htab  n9 h
theorem pl_X5_bestInRow : (parseMethodDescriptor yX5_bestInRow.desc).map (fun d => d.parameters.length) = some 2 := by decide +kernel
def w_X5_bestInRow_80 (k8 : Int32 → Int32 → Int32 → Int32 → Int32 → Int32 → Sg → Prop) (Q : Nat → Int32 → Sg → Prop) (x0 : Int32) (x1 : Int32) (x2 : Int32) (x3 : Int32) (x4 : Int32) (x5 : Int32) (S : Sg) : Prop := k8 x0 x1 x2 x3 x4 (x5 + 1) S
theorem k_X5_bestInRow_80 (hT : xT X = tb1) (hl : l.stackTraces = false) (C : Cn X k0 p l R s m meth c cX5_bestInRow RX5 7 2 23) (hr : meth.sig.returnType = (some .int)) (hnm : meth.name = yX5_bestInRow.name) (htab : ∀ x ∈ c.exceptionTable.toList, False) {k8 : Int32 → Int32 → Int32 → Int32 → Int32 → Int32 → Sg → Prop} (hk8 : ∀ {x0 : Int32} {x1 : Int32} {x2 : Int32} {x3 : Int32} {x4 : Int32} {x5 : Int32} {S : Sg}, k8 x0 x1 x2 x3 x4 x5 S → V X p l e R s m args below meth c 7 (QM X below args s S0 ad0 rvI Qa) S0 ad0 S 8 [(0, Value.ref (enc 6 (nt x0))), (1, Value.int x1), (2, Value.int x2), (3, Value.int x3), (4, Value.int x4), (5, Value.int x5)] []) {x0 : Int32} {x1 : Int32} {x2 : Int32} {x3 : Int32} {x4 : Int32} {x5 : Int32} {S : Sg} (h : w_X5_bestInRow_80 k8 Qa x0 x1 x2 x3 x4 x5 S) : V X p l e R s m args below meth c 7 (QM X below args s S0 ad0 rvI Qa) S0 ad0 S 80 [(0, Value.ref (enc 6 (nt x0))), (1, Value.int x1), (2, Value.int x2), (3, Value.int x3), (4, Value.int x4), (5, Value.int x5)] [] := by
  refine V_iinc (pc := 80) C (a := 5) (v := x5 + 1) dX5_bestInRow_80 rfl rfl (by decide) rfl ?_
  refine V_goto (pc := 83) (tgt := 8) C dX5_bestInRow_83 (by decide) ?_
  refine V_sub [1, 2, 3, 4, 5, 0] rfl ?_
  exact hk8 h
def w_X5_bestInRow_73 (k8 : Int32 → Int32 → Int32 → Int32 → Int32 → Int32 → Sg → Prop) (Q : Nat → Int32 → Sg → Prop) (x0 : Int32) (x1 : Int32) (x2 : Int32) (x5 : Int32) (x6 : Int32) (S : Sg) : Prop := w_X5_bestInRow_80 k8 Q x0 x1 x2 x5 x6 x5 S
theorem k_X5_bestInRow_73 (hT : xT X = tb1) (hl : l.stackTraces = false) (C : Cn X k0 p l R s m meth c cX5_bestInRow RX5 7 2 23) (hr : meth.sig.returnType = (some .int)) (hnm : meth.name = yX5_bestInRow.name) (htab : ∀ x ∈ c.exceptionTable.toList, False) {k8 : Int32 → Int32 → Int32 → Int32 → Int32 → Int32 → Sg → Prop} (hk8 : ∀ {x0 : Int32} {x1 : Int32} {x2 : Int32} {x3 : Int32} {x4 : Int32} {x5 : Int32} {S : Sg}, k8 x0 x1 x2 x3 x4 x5 S → V X p l e R s m args below meth c 7 (QM X below args s S0 ad0 rvI Qa) S0 ad0 S 8 [(0, Value.ref (enc 6 (nt x0))), (1, Value.int x1), (2, Value.int x2), (3, Value.int x3), (4, Value.int x4), (5, Value.int x5)] []) {x0 : Int32} {x1 : Int32} {x2 : Int32} {x5 : Int32} {x6 : Int32} {S : Sg} (h : w_X5_bestInRow_73 k8 Qa x0 x1 x2 x5 x6 S) : V X p l e R s m args below meth c 7 (QM X below args s S0 ad0 rvI Qa) S0 ad0 S 73 [(0, Value.ref (enc 6 (nt x0))), (1, Value.int x1), (2, Value.int x2), (5, Value.int x5), (6, Value.int x6)] [] := by
  refine V_iload (pc := 73) C dX5_bestInRow_73 3 rfl ?_
  refine V_istore_n (pc := 75) C dX5_bestInRow_75 rfl (by decide) rfl ?_
  refine V_iload (pc := 76) C dX5_bestInRow_76 5 rfl ?_
  refine V_istore (pc := 78) C dX5_bestInRow_78 (by decide) rfl ?_
  refine V_sub [2, 3, 4, 1, 0, 5] rfl ?_
  exact k_X5_bestInRow_80 hT hl C hr hnm htab (fun h => hk8 h) h
def w_X5_bestInRow_8  (Q : Nat → Int32 → Sg → Prop) : Nat → Int32 → Int32 → Int32 → Int32 → Int32 → Int32 → Sg → Prop
  | 0, _, _, _, _, _, _, _ => False
  | n + 1, x0, x1, x2, x3, x4, x5, S => (¬ S.1 52 (nt x0) < 0 ∧ (((S.1 22 (nt (S.1 52 (nt x0)))) < (x5 + x2) → Q 0 x3 S) ∧ (¬ (S.1 22 (nt (S.1 52 (nt x0)))) < (x5 + x2) → (¬ S.1 52 (nt x0) < 0 ∧ (w_J9_abs_0f7a4 (((2 * x5) + x2) - (S.1 22 (nt (S.1 52 (nt x0))))) S (fun k3 v2 S1 => (k3 = 0 → (¬ S1.1 52 (nt x0) < 0 ∧ (w_X5_areFree x0 ((x1 * (S1.1 22 (nt (S1.1 52 (nt x0))))) + x5) x2 S1 (fun k6 v5 S4 => (k6 = 0 → ((v5 = 0 → w_X5_bestInRow_80 (fun x0 x1 x2 x3 x4 x5 S => w_X5_bestInRow_8  Q n x0 x1 x2 x3 x4 x5 S) Q x0 x1 x2 x3 x4 x5 S4) ∧ (¬ v5 = 0 → ((x3 = (-1) → w_X5_bestInRow_73 (fun x0 x1 x2 x3 x4 x5 S => w_X5_bestInRow_8  Q n x0 x1 x2 x3 x4 x5 S) Q x0 x1 x2 x5 v2 S4) ∧ (¬ x3 = (-1) → ((x4 ≤ v2 → w_X5_bestInRow_80 (fun x0 x1 x2 x3 x4 x5 S => w_X5_bestInRow_8  Q n x0 x1 x2 x3 x4 x5 S) Q x0 x1 x2 x3 x4 x5 S4) ∧ (¬ x4 ≤ v2 → w_X5_bestInRow_73 (fun x0 x1 x2 x3 x4 x5 S => w_X5_bestInRow_8  Q n x0 x1 x2 x3 x4 x5 S) Q x0 x1 x2 x5 v2 S4))))))) ∧ (¬ k6 = 0 → Q k6 0 S4))))) ∧ (¬ k3 = 0 → Q k3 0 S1)))))))
theorem k_X5_bestInRow_8 (hT : xT X = tb1) (hl : l.stackTraces = false) (C : Cn X k0 p l R s m meth c cX5_bestInRow RX5 7 2 23) (hr : meth.sig.returnType = (some .int)) (hnm : meth.name = yX5_bestInRow.name) (htab : ∀ x ∈ c.exceptionTable.toList, False)  : ∀ n {x0 : Int32} {x1 : Int32} {x2 : Int32} {x3 : Int32} {x4 : Int32} {x5 : Int32} {S : Sg}, w_X5_bestInRow_8  Qa n x0 x1 x2 x3 x4 x5 S → V X p l e R s m args below meth c 7 (QM X below args s S0 ad0 rvI Qa) S0 ad0 S 8 [(0, Value.ref (enc 6 (nt x0))), (1, Value.int x1), (2, Value.int x2), (3, Value.int x3), (4, Value.int x4), (5, Value.int x5)] [] := by
  intro n
  induction n with
  | zero => intro x0 x1 x2 x3 x4 x5 S h; exact h.elim
  | succ n ih =>
    intro x0 x1 x2 x3 x4 x5 S h
    refine V_iload (pc := 8) C dX5_bestInRow_8 5 rfl ?_
    refine V_iload_n (pc := 10) C dX5_bestInRow_10 rfl 2 rfl ?_
    refine V_iadd (pc := 11) C dX5_bestInRow_11 ?_
    refine V_aload_n (pc := 12) C dX5_bestInRow_12 rfl 0 rfl ?_
    refine V_getR (pc := 13) C hT f1_X5_2 (by decide) g502 dX5_bestInRow_13 h (fun h => ?_)
    refine V_getI (pc := 16) C hT f1_X1_2 g232 dX5_bestInRow_16 ?_
    refine V_icmp_gt (pc := 19) (tgt := 86) C dX5_bestInRow_19 (by decide) h (fun h => ?_) (fun h => ?_)
    · refine V_iload_n (pc := 86) C dX5_bestInRow_86 rfl 3 rfl ?_
      exact V_iret (pc := 87) C hr rfl h dX5_bestInRow_87
    · refine V_iconst (pc := 22) C (v := 2) dX5_bestInRow_22 rfl ?_
      refine V_iload (pc := 23) C dX5_bestInRow_23 5 rfl ?_
      refine V_imul (pc := 25) C dX5_bestInRow_25 ?_
      refine V_iload_n (pc := 26) C dX5_bestInRow_26 rfl 2 rfl ?_
      refine V_iadd (pc := 27) C dX5_bestInRow_27 ?_
      refine V_aload_n (pc := 28) C dX5_bestInRow_28 rfl 0 rfl ?_
      refine V_getR (pc := 29) C hT f1_X5_2 (by decide) g502 dX5_bestInRow_29 h (fun h => ?_)
      refine V_getI (pc := 32) C hT f1_X1_2 g232 dX5_bestInRow_32 ?_
      refine V_isub (pc := 35) C dX5_bestInRow_35 ?_
      refine V_callS (pc := 36) C (ct_J9_abs_0f7a4 hT hl h) g714 g465 g466 g44 ⟨by decide, by decide, pl_J9_abs_0f7a4⟩ ⟨by decide, by decide⟩ (rest := []) rfl (le8 rfl) dX5_bestInRow_36 (fun v2 S1 h => ?_) (fun k9 S9 hk h => VX_out C htab hk (h.2 (by omega)))
      replace h := h.1 rfl
      refine V_st (st' := [Value.int v2]) rfl ?_
      refine V_istore (pc := 39) C dX5_bestInRow_39 (by decide) rfl ?_
      refine V_aload_n (pc := 41) C dX5_bestInRow_41 rfl 1 rfl ?_
      refine V_iload_n (pc := 42) C dX5_bestInRow_42 rfl 2 rfl ?_
      refine V_aload_n (pc := 43) C dX5_bestInRow_43 rfl 1 rfl ?_
      refine V_getR (pc := 44) C hT f1_X5_2 (by decide) g502 dX5_bestInRow_44 h (fun h => ?_)
      refine V_getI (pc := 47) C hT f1_X1_2 g232 dX5_bestInRow_47 ?_
      refine V_imul (pc := 50) C dX5_bestInRow_50 ?_
      refine V_iload (pc := 51) C dX5_bestInRow_51 6 rfl ?_
      refine V_iadd (pc := 53) C dX5_bestInRow_53 ?_
      refine V_iload_n (pc := 54) C dX5_bestInRow_54 rfl 3 rfl ?_
      refine V_callV (pc := 55) C (ct_X5_areFree hT hl h) g715 g717 g23 g718 g52 ⟨by decide, by decide, pl_X5_areFree⟩ (enc_ne63 (by decide)) (ct_obj hT rfl (by decide)) rfl ⟨by decide, by decide⟩ (rest := []) rfl (le8 rfl) dX5_bestInRow_55 (fun v5 S4 h => ?_) (fun k9 S9 hk h => VX_out C htab hk (h.2 (by omega)))
      replace h := h.1 rfl
      refine V_st (st' := [Value.int v5]) rfl ?_
      refine V_if_eq (pc := 58) (tgt := 80) C dX5_bestInRow_58 (by decide) h (fun h => ?_) (fun h => ?_)
      · refine V_sub [1, 2, 3, 4, 5, 6] rfl ?_
        exact k_X5_bestInRow_80 hT hl C hr hnm htab (fun h => ih h) h
      · refine V_iload_n (pc := 61) C dX5_bestInRow_61 rfl 4 rfl ?_
        refine V_iconst (pc := 62) C (v := (-1)) dX5_bestInRow_62 rfl ?_
        refine V_icmp_eq (pc := 63) (tgt := 73) C dX5_bestInRow_63 (by decide) h (fun h => ?_) (fun h => ?_)
        · refine V_sub [1, 2, 3, 6, 0] rfl ?_
          exact k_X5_bestInRow_73 hT hl C hr hnm htab (fun h => ih h) h
        · refine V_iload (pc := 66) C dX5_bestInRow_66 0 rfl ?_
          refine V_iload (pc := 68) C dX5_bestInRow_68 5 rfl ?_
          refine V_icmp_ge (pc := 70) (tgt := 80) C dX5_bestInRow_70 (by decide) h (fun h => ?_) (fun h => ?_)
          · refine V_sub [1, 2, 3, 4, 5, 6] rfl ?_
            exact k_X5_bestInRow_80 hT hl C hr hnm htab (fun h => ih h) h
          · refine V_sub [1, 2, 3, 6, 0] rfl ?_
            exact k_X5_bestInRow_73 hT hl C hr hnm htab (fun h => ih h) h
def w_X5_bestInRow (a0 : Int32) (a1 : Int32) (a2 : Int32) (S : Sg) (Q : Nat → Int32 → Sg → Prop) : Prop := ∃ n9, w_X5_bestInRow_8  Q n9 a0 a1 a2 (-1) 0 0 S
theorem ct_X5_bestInRow (hT : xT X = tb1) (hl : l.stackTraces = false) {a0 : Int32} {a1 : Int32} {a2 : Int32} {S : Sg} (h : w_X5_bestInRow a0 a1 a2 S Qa) : CT X k0 l yX5_bestInRow cX5_bestInRow 7 (some .int) 2 23 [Value.ref (enc 6 (nt a0)), Value.int a1, Value.int a2] rvI S Qa :=
  CT_ofV (own := RX5) (by decide +kernel) (le8 rfl) rfl hl fun p e R s m args below meth c ad0 C hr hnm htab => by
    refine V_iconst (pc := 0) C (v := (-1)) dX5_bestInRow_0 rfl ?_
    refine V_istore_n (pc := 1) C dX5_bestInRow_1 rfl (by decide) rfl ?_
    refine V_iconst (pc := 2) C (v := 0) dX5_bestInRow_2 rfl ?_
    refine V_istore (pc := 3) C dX5_bestInRow_3 (by decide) rfl ?_
    refine V_iconst (pc := 5) C (v := 0) dX5_bestInRow_5 rfl ?_
    refine V_istore (pc := 6) C dX5_bestInRow_6 (by decide) rfl ?_
    refine V_sub [3, 4, 5, 2, 1, 0] rfl ?_
    obtain ⟨n9, h⟩ := h
    exact k_X5_bestInRow_8 hT hl C hr hnm htab  n9 h
theorem pl_X5_placeForGroup : (parseMethodDescriptor yX5_placeForGroup.desc).map (fun d => d.parameters.length) = some 1 := by decide +kernel
def w_X5_placeForGroup_2  (Q : Nat → Int32 → Sg → Prop) : Nat → Int32 → Int32 → Int32 → Sg → Prop
  | 0, _, _, _, _ => False
  | n + 1, x0, x1, x2, S => (¬ S.1 52 (nt x0) < 0 ∧ (((S.1 21 (nt (S.1 52 (nt x0)))) ≤ x2 → Q 0 (-1) S) ∧ (¬ (S.1 21 (nt (S.1 52 (nt x0)))) ≤ x2 → (w_X5_bestInRow x0 x2 x1 S (fun k3 v2 S1 => (k3 = 0 → ((v2 = (-1) → w_X5_placeForGroup_2  Q n x0 x1 (x2 + 1) S1) ∧ (¬ v2 = (-1) → (¬ S1.1 52 (nt x0) < 0 ∧ Q 0 ((x2 * (S1.1 22 (nt (S1.1 52 (nt x0))))) + v2) S1)))) ∧ (¬ k3 = 0 → Q k3 0 S1))))))
theorem k_X5_placeForGroup_2 (hT : xT X = tb1) (hl : l.stackTraces = false) (C : Cn X k0 p l R s m meth c cX5_placeForGroup RX5 4 3 49) (hr : meth.sig.returnType = (some .int)) (hnm : meth.name = yX5_placeForGroup.name) (htab : ∀ x ∈ c.exceptionTable.toList, False)  : ∀ n {x0 : Int32} {x1 : Int32} {x2 : Int32} {S : Sg}, w_X5_placeForGroup_2  Qa n x0 x1 x2 S → V X p l e R s m args below meth c 4 (QM X below args s S0 ad0 rvI Qa) S0 ad0 S 2 [(0, Value.ref (enc 6 (nt x0))), (1, Value.int x1), (2, Value.int x2)] [] := by
  intro n
  induction n with
  | zero => intro x0 x1 x2 S h; exact h.elim
  | succ n ih =>
    intro x0 x1 x2 S h
    refine V_iload_n (pc := 2) C dX5_placeForGroup_2 rfl 2 rfl ?_
    refine V_aload_n (pc := 3) C dX5_placeForGroup_3 rfl 0 rfl ?_
    refine V_getR (pc := 4) C hT f1_X5_2 (by decide) g502 dX5_placeForGroup_4 h (fun h => ?_)
    refine V_getI (pc := 7) C hT f1_X1_1 g229 dX5_placeForGroup_7 ?_
    refine V_icmp_ge (pc := 10) (tgt := 43) C dX5_placeForGroup_10 (by decide) h (fun h => ?_) (fun h => ?_)
    · refine V_iconst (pc := 43) C (v := (-1)) dX5_placeForGroup_43 rfl ?_
      exact V_iret (pc := 44) C hr rfl h dX5_placeForGroup_44
    · refine V_aload_n (pc := 13) C dX5_placeForGroup_13 rfl 0 rfl ?_
      refine V_iload_n (pc := 14) C dX5_placeForGroup_14 rfl 2 rfl ?_
      refine V_iload_n (pc := 15) C dX5_placeForGroup_15 rfl 1 rfl ?_
      refine V_callV (pc := 16) C (ct_X5_bestInRow hT hl h) g710 g712 g22 g713 g52 ⟨by decide, by decide, pl_X5_bestInRow⟩ (enc_ne63 (by decide)) (ct_obj hT rfl (by decide)) rfl ⟨by decide, by decide⟩ (rest := []) rfl (le8 rfl) dX5_placeForGroup_16 (fun v2 S1 h => ?_) (fun k9 S9 hk h => VX_out C htab hk (h.2 (by omega)))
      replace h := h.1 rfl
      refine V_st (st' := [Value.int v2]) rfl ?_
      refine V_istore_n (pc := 19) C dX5_placeForGroup_19 rfl (by decide) rfl ?_
      refine V_iload_n (pc := 20) C dX5_placeForGroup_20 rfl 0 rfl ?_
      refine V_iconst (pc := 21) C (v := (-1)) dX5_placeForGroup_21 rfl ?_
      refine V_icmp_eq (pc := 22) (tgt := 37) C dX5_placeForGroup_22 (by decide) h (fun h => ?_) (fun h => ?_)
      · refine V_iinc (pc := 37) C (a := 3) (v := x2 + 1) dX5_placeForGroup_37 rfl rfl (by decide) rfl ?_
        refine V_goto (pc := 40) (tgt := 2) C dX5_placeForGroup_40 (by decide) ?_
        refine V_sub [2, 3, 0] rfl ?_
        exact ih h
      · refine V_iload_n (pc := 25) C dX5_placeForGroup_25 rfl 3 rfl ?_
        refine V_aload_n (pc := 26) C dX5_placeForGroup_26 rfl 1 rfl ?_
        refine V_getR (pc := 27) C hT f1_X5_2 (by decide) g502 dX5_placeForGroup_27 h (fun h => ?_)
        refine V_getI (pc := 30) C hT f1_X1_2 g232 dX5_placeForGroup_30 ?_
        refine V_imul (pc := 33) C dX5_placeForGroup_33 ?_
        refine V_iload_n (pc := 34) C dX5_placeForGroup_34 rfl 0 rfl ?_
        refine V_iadd (pc := 35) C dX5_placeForGroup_35 ?_
        exact V_iret (pc := 36) C hr rfl h dX5_placeForGroup_36
def w_X5_placeForGroup (a0 : Int32) (a1 : Int32) (S : Sg) (Q : Nat → Int32 → Sg → Prop) : Prop := ∃ n9, w_X5_placeForGroup_2  Q n9 a0 a1 0 S
theorem ct_X5_placeForGroup (hT : xT X = tb1) (hl : l.stackTraces = false) {a0 : Int32} {a1 : Int32} {S : Sg} (h : w_X5_placeForGroup a0 a1 S Qa) : CT X k0 l yX5_placeForGroup cX5_placeForGroup 4 (some .int) 3 49 [Value.ref (enc 6 (nt a0)), Value.int a1] rvI S Qa :=
  CT_ofV (own := RX5) (by decide +kernel) (le8 rfl) rfl hl fun p e R s m args below meth c ad0 C hr hnm htab => by
    refine V_iconst (pc := 0) C (v := 0) dX5_placeForGroup_0 rfl ?_
    refine V_istore_n (pc := 1) C dX5_placeForGroup_1 rfl (by decide) rfl ?_
    refine V_sub [1, 2, 0] rfl ?_
    obtain ⟨n9, h⟩ := h
    exact k_X5_placeForGroup_2 hT hl C hr hnm htab  n9 h
theorem pl_X6_init : (parseMethodDescriptor yX6_init.desc).map (fun d => d.parameters.length) = some 4 := by decide +kernel
def w_X6_init (a0 : Int32) (a1 : Int32) (a2 : Int32) (a3 : Int32) (a4 : Int32) (S : Sg) (Q : Nat → Int32 → Sg → Prop) : Prop := (∀ S1, S1 = su S 74 (nt a0) 0 → (¬ a1 < 0 ∧ (∀ S2, S2 = su S1 70 (nt a0) a1 → (∀ S3, S3 = su S2 71 (nt a0) a2 → (∀ S4, S4 = su S3 72 (nt a0) a3 → (∀ S5, S5 = su S4 73 (nt a0) a4 → Q 0 0 S5))))))
theorem ct_X6_init (hT : xT X = tb1) (hl : l.stackTraces = false) {a0 : Int32} {a1 : Int32} {a2 : Int32} {a3 : Int32} {a4 : Int32} {S : Sg} (h : w_X6_init a0 a1 a2 a3 a4 S Qa) : CT X k0 l yX6_init cX6_init 5 none 1 12 [Value.ref (enc 8 (nt a0)), Value.ref (enc 6 (nt a1)), Value.int a2, Value.int a3, Value.int a4] rvV S Qa :=
  CT_ofV (own := RX6) (by decide +kernel) (le8 rfl) rfl hl fun p e R s m args below meth c ad0 C hr hnm htab => by
    refine V_aload_n (pc := 0) C dX6_init_0 rfl 0 rfl ?_
    refine V_objI (pc := 1) C g605 g62 g63 ⟨by decide, le8 rfl⟩ dX6_init_1 ?_
    refine V_aload_n (pc := 4) C dX6_init_4 rfl 0 rfl ?_
    refine V_iconst (pc := 5) C (v := 0) dX6_init_5 rfl ?_
    refine V_putI (pc := 6) C hT tb1_ok f1_X6_4 (by unfold lc; decide) g614 (Or.inl rfl) (Or.inr ⟨rfl, by decide⟩) dX6_init_6 (V_nx fun S1 e9 => ?_)
    replace h := h S1 e9; clear e9
    refine V_aload_n (pc := 9) C dX6_init_9 rfl 0 rfl ?_
    refine V_aload_n (pc := 10) C dX6_init_10 rfl 1 rfl ?_
    refine V_putN (pc := 11) C hT tb1_ok f1_X6_0 (by decide) (by unfold lc; decide) g606 (Or.inr ⟨rfl, hnm, rfl⟩) (Or.inl ⟨_, rfl⟩) dX6_init_11 h (fun h => V_nx fun S2 e9 => ?_)
    replace h := h S2 e9; clear e9
    refine V_aload_n (pc := 14) C dX6_init_14 rfl 0 rfl ?_
    refine V_iload_n (pc := 15) C dX6_init_15 rfl 2 rfl ?_
    refine V_putI (pc := 16) C hT tb1_ok f1_X6_1 (by unfold lc; decide) g608 (Or.inr ⟨rfl, hnm, rfl⟩) (Or.inl rfl) dX6_init_16 (V_nx fun S3 e9 => ?_)
    replace h := h S3 e9; clear e9
    refine V_aload_n (pc := 19) C dX6_init_19 rfl 0 rfl ?_
    refine V_iload_n (pc := 20) C dX6_init_20 rfl 3 rfl ?_
    refine V_putI (pc := 21) C hT tb1_ok f1_X6_2 (by unfold lc; decide) g610 (Or.inr ⟨rfl, hnm, rfl⟩) (Or.inl rfl) dX6_init_21 (V_nx fun S4 e9 => ?_)
    replace h := h S4 e9; clear e9
    refine V_aload_n (pc := 24) C dX6_init_24 rfl 0 rfl ?_
    refine V_iload (pc := 25) C dX6_init_25 4 rfl ?_
    refine V_putI (pc := 27) C hT tb1_ok f1_X6_3 (by unfold lc; decide) g612 (Or.inl rfl) (Or.inl rfl) dX6_init_27 (V_nx fun S5 e9 => ?_)
    replace h := h S5 e9; clear e9
    exact V_vret (pc := 30) C hr rfl h dX6_init_30
theorem pl_X6_payBack : (parseMethodDescriptor yX6_payBack.desc).map (fun d => d.parameters.length) = some 1 := by decide +kernel
def w_X6_payBack (a0 : Int32) (a1 : Int32) (S : Sg) (Q : Nat → Int32 → Sg → Prop) : Prop := (∀ S1, S1 = su S 73 (nt a0) ((S.1 73 (nt a0)) - a1) → (¬ S1.1 70 (nt a0) < 0 ∧ (∀ S2, S2 = su S1 57 (nt (S1.1 70 (nt a0))) ((S1.1 57 (nt (S1.1 70 (nt a0)))) - a1) → Q 0 a1 S2)))
theorem ct_X6_payBack (hT : xT X = tb1) (hl : l.stackTraces = false) {a0 : Int32} {a1 : Int32} {S : Sg} (h : w_X6_payBack a0 a1 S Qa) : CT X k0 l yX6_payBack cX6_payBack 2 (some .int) 1 0 [Value.ref (enc 8 (nt a0)), Value.int a1] rvI S Qa :=
  CT_ofV (own := RX6) (by decide +kernel) (le8 rfl) rfl hl fun p e R s m args below meth c ad0 C hr hnm htab => by
    refine V_aload_n (pc := 0) C dX6_payBack_0 rfl 0 rfl ?_
    refine V_dup (pc := 1) C dX6_payBack_1 rfl ?_
    refine V_getI (pc := 2) C hT f1_X6_3 g612 dX6_payBack_2 ?_
    refine V_iload_n (pc := 5) C dX6_payBack_5 rfl 1 rfl ?_
    refine V_isub (pc := 6) C dX6_payBack_6 ?_
    refine V_putI (pc := 7) C hT tb1_ok f1_X6_3 (by unfold lc; decide) g612 (Or.inl rfl) (Or.inl rfl) dX6_payBack_7 (V_nx fun S1 e9 => ?_)
    replace h := h S1 e9; clear e9
    refine V_aload_n (pc := 10) C dX6_payBack_10 rfl 0 rfl ?_
    refine V_getR (pc := 11) C hT f1_X6_0 (by decide) g606 dX6_payBack_11 h (fun h => ?_)
    refine V_dup (pc := 14) C dX6_payBack_14 rfl ?_
    refine V_getI (pc := 15) C hT f1_X5_7 g513 dX6_payBack_15 ?_
    refine V_iload_n (pc := 18) C dX6_payBack_18 rfl 1 rfl ?_
    refine V_isub (pc := 19) C dX6_payBack_19 ?_
    refine V_putI (pc := 20) C hT tb1_ok f1_X5_7 (by unfold lc; decide) g513 (Or.inl rfl) (Or.inl rfl) dX6_payBack_20 (V_nx fun S2 e9 => ?_)
    replace h := h S2 e9; clear e9
    refine V_iload_n (pc := 23) C dX6_payBack_23 rfl 1 rfl ?_
    exact V_iret (pc := 24) C hr rfl h dX6_payBack_24
theorem pl_X7_needWithin : (parseMethodDescriptor yX7_needWithin.desc).map (fun d => d.parameters.length) = some 3 := by decide +kernel
def w_X7_needWithin_10  (Q : Nat → Int32 → Sg → Prop)  (S : Sg) : Prop := (S.2.1 + 1 ≤ nB1 ∧ S.2.2 + 6 ≤ nB2 ∧ Q 1 0 (tS S))
theorem k_X7_needWithin_10 (hT : xT X = tb1) (hl : l.stackTraces = false) (C : Cn X k0 p l R s m meth c cX7_needWithin RX7 3 6 82) (hr : meth.sig.returnType = none) (hnm : meth.name = yX7_needWithin.name) (htab : ∀ x ∈ c.exceptionTable.toList, False)   {S : Sg} (h : w_X7_needWithin_10  Qa  S) : V X p l e R s m args below meth c 3 (QM X below args s S0 ad0 rvV Qa) S0 ad0 S 10 [] [] := by
  exact V_throwW (pc := 10) C htab (k9 := 1) (by decide) at_RX7_1 str_RX7_343 ⟨by decide, le8 rfl⟩ dX7_needWithin_10 dX7_needWithin_13 dX7_needWithin_14 dX7_needWithin_17 dX7_needWithin_20 h
def w_X7_needWithin (a0 : Int32) (a1 : Int32) (a2 : Int32) (S : Sg) (Q : Nat → Int32 → Sg → Prop) : Prop := ((a0 < a1 → w_X7_needWithin_10  Q  S) ∧ (¬ a0 < a1 → ((a0 ≤ a2 → Q 0 0 S) ∧ (¬ a0 ≤ a2 → w_X7_needWithin_10  Q  S))))
theorem ct_X7_needWithin (hT : xT X = tb1) (hl : l.stackTraces = false) {a0 : Int32} {a1 : Int32} {a2 : Int32} {S : Sg} (h : w_X7_needWithin a0 a1 a2 S Qa) : CT X k0 l yX7_needWithin cX7_needWithin 3 none 6 82 [Value.int a0, Value.int a1, Value.int a2] rvV S Qa :=
  CT_ofV (own := RX7) (by decide +kernel) (le8 rfl) rfl hl fun p e R s m args below meth c ad0 C hr hnm htab => by
    refine V_iload_n (pc := 0) C dX7_needWithin_0 rfl 0 rfl ?_
    refine V_iload_n (pc := 1) C dX7_needWithin_1 rfl 1 rfl ?_
    refine V_icmp_lt (pc := 2) (tgt := 10) C dX7_needWithin_2 (by decide) h (fun h => ?_) (fun h => ?_)
    · refine V_sub [] rfl ?_
      exact k_X7_needWithin_10 hT hl C hr hnm htab  h
    · refine V_iload_n (pc := 5) C dX7_needWithin_5 rfl 0 rfl ?_
      refine V_iload_n (pc := 6) C dX7_needWithin_6 rfl 2 rfl ?_
      refine V_icmp_le (pc := 7) (tgt := 21) C dX7_needWithin_7 (by decide) h (fun h => ?_) (fun h => ?_)
      · exact V_vret (pc := 21) C hr rfl h dX7_needWithin_21
      · refine V_sub [] rfl ?_
        exact k_X7_needWithin_10 hT hl C hr hnm htab  h
theorem pl_X7_hall : (parseMethodDescriptor yX7_hall.desc).map (fun d => d.parameters.length) = some 2 := by decide +kernel
def w_X7_hall (a1 : Int32) (a2 : Int32) (S : Sg) (Q : Nat → Int32 → Sg → Prop) : Prop := (w_X7_needWithin a1 1 6 S (fun k3 v2 S1 => (k3 = 0 → (w_X7_needWithin a2 1 8 S1 (fun k6 v5 S4 => (k6 = 0 → (w_size 0 S4 (fun k9 v8 S7 => (k9 = 0 → ((v8 < 4 → ((S7.2.1 + 1 ≤ nB1 ∧ S7.2.2 + 5 ≤ nB2) ∧ (∀ v11, v11 = S7.1 10 3 → ∀ S10, S10 = nu S7 3 5 fdHall → (w_size 0 S10 (fun k14 v13 S12 => (k14 = 0 → (w_X1_init v11 v13 a1 a2 S12 (fun k17 v16 S15 => (k17 = 0 → (w_add 0 v11 S15 (fun k20 v19 S18 => (k20 = 0 → (w_size 0 S18 (fun k23 v22 S21 => (k23 = 0 → Q 0 (v22 - 1) S21) ∧ (¬ k23 = 0 → Q k23 0 S21)))) ∧ (¬ k20 = 0 → Q k20 0 S18)))) ∧ (¬ k17 = 0 → Q k17 0 S15)))) ∧ (¬ k14 = 0 → Q k14 0 S12)))))) ∧ (¬ v8 < 4 → (S7.2.1 + 1 ≤ nB1 ∧ S7.2.2 + 6 ≤ nB2 ∧ Q 2 0 (tS S7))))) ∧ (¬ k9 = 0 → Q k9 0 S7)))) ∧ (¬ k6 = 0 → Q k6 0 S4)))) ∧ (¬ k3 = 0 → Q k3 0 S1)))
theorem ct_X7_hall (hT : xT X = tb1) (hl : l.stackTraces = false) {a1 : Int32} {a2 : Int32} {S : Sg} (h : w_X7_hall a1 a2 S Qa) : CT X k0 l yX7_hall cX7_hall 3 (some .int) 8 181 [Value.ref (enc 0 0), Value.int a1, Value.int a2] rvI S Qa :=
  CT_ofV (own := RX7) (by decide +kernel) (le8 rfl) rfl hl fun p e R s m args below meth c ad0 C hr hnm htab => by
    refine V_iload_n (pc := 0) C dX7_hall_0 rfl 1 rfl ?_
    refine V_iconst (pc := 1) C (v := 1) dX7_hall_1 rfl ?_
    refine V_bipush (pc := 2) C (v := 6) dX7_hall_2 rfl ?_
    refine V_callS (pc := 4) C (ct_X7_needWithin hT hl h) g129 g130 g131 g33 ⟨by decide, by decide, pl_X7_needWithin⟩ ⟨by decide, by decide⟩ (rest := []) rfl (le8 rfl) dX7_hall_4 (fun v2 S1 h => ?_) (fun k9 S9 hk h => VX_out C htab hk (h.2 (by omega)))
    replace h := h.1 rfl
    refine V_st (st' := []) rfl ?_
    refine V_iload_n (pc := 7) C dX7_hall_7 rfl 2 rfl ?_
    refine V_iconst (pc := 8) C (v := 1) dX7_hall_8 rfl ?_
    refine V_bipush (pc := 9) C (v := 8) dX7_hall_9 rfl ?_
    refine V_callS (pc := 11) C (ct_X7_needWithin hT hl h) g129 g130 g131 g33 ⟨by decide, by decide, pl_X7_needWithin⟩ ⟨by decide, by decide⟩ (rest := []) rfl (le8 rfl) dX7_hall_11 (fun v5 S4 h => ?_) (fun k9 S9 hk h => VX_out C htab hk (h.2 (by omega)))
    replace h := h.1 rfl
    refine V_st (st' := []) rfl ?_
    refine V_aload_n (pc := 14) C dX7_hall_14 rfl 0 rfl ?_
    refine V_getF (pc := 15) C hT f1_X7_0 g90 dX7_hall_15 ?_
    refine V_callV (pc := 18) C (ct_size hT hl h) g200 g201 g202 g203 g36 ⟨by decide, by decide, pl_Jx4a65c_size_8abf5⟩ (enc_ne63 (by decide)) (ct_obj hT rfl (by decide)) rfl ⟨by decide, by decide⟩ (rest := []) rfl (le8 rfl) dX7_hall_18 (fun v8 S7 h => ?_) (fun k9 S9 hk h => VX_out C htab hk (h.2 (by omega)))
    replace h := h.1 rfl
    refine V_st (st' := [Value.int v8]) rfl ?_
    refine V_iconst (pc := 21) C (v := 4) dX7_hall_21 rfl ?_
    refine V_icmp_lt (pc := 22) (tgt := 35) C dX7_hall_22 (by decide) h (fun h => ?_) (fun h => ?_)
    · refine V_aload_n (pc := 35) C dX7_hall_35 rfl 0 rfl ?_
      refine V_getF (pc := 36) C hT f1_X7_0 g90 dX7_hall_36 ?_
      refine V_newO (pc := 39) (k := 3) (fds := fdHall) C hT tb1_g CF_X1 rfl (by decide) (by decide +kernel) (by decide +kernel) rfl g220 g221 g42 dX7_hall_39 h (fun h => V_nR fun v11 e8 => V_nx fun S10 e9 => ?_)
      replace h := h v11 e8 S10 e9; clear e8 e9
      refine V_dup (pc := 42) C dX7_hall_42 rfl ?_
      refine V_aload_n (pc := 43) C dX7_hall_43 rfl 0 rfl ?_
      refine V_getF (pc := 44) C hT f1_X7_0 g90 dX7_hall_44 ?_
      refine V_callV (pc := 47) C (ct_size hT hl h) g200 g201 g202 g203 g36 ⟨by decide, by decide, pl_Jx4a65c_size_8abf5⟩ (enc_ne63 (by decide)) (ct_obj hT rfl (by decide)) rfl ⟨by decide, by decide⟩ (rest := [Value.ref (enc 3 (nt v11)), Value.ref (enc 3 (nt v11)), Value.ref (enc 1 0)]) rfl (le8 rfl) dX7_hall_47 (fun v13 S12 h => ?_) (fun k9 S9 hk h => VX_out C htab hk (h.2 (by omega)))
      replace h := h.1 rfl
      refine V_st (st' := [Value.int v13, Value.ref (enc 3 (nt v11)), Value.ref (enc 3 (nt v11)), Value.ref (enc 1 0)]) rfl ?_
      refine V_iload_n (pc := 50) C dX7_hall_50 rfl 1 rfl ?_
      refine V_iload_n (pc := 51) C dX7_hall_51 rfl 2 rfl ?_
      refine V_callI (pc := 52) C (ct_X1_init hT hl h) g222 g223 g224 g42 rfl ⟨by decide, by decide, pl_X1_init⟩ ⟨by decide, by decide⟩ (rest := [Value.ref (enc 3 (nt v11)), Value.ref (enc 1 0)]) rfl (le8 rfl) dX7_hall_52 (fun v16 S15 h => ?_) (fun k9 S9 hk h => VX_out C htab hk (h.2 (by omega)))
      replace h := h.1 rfl
      refine V_st (st' := [Value.ref (enc 3 (nt v11)), Value.ref (enc 1 0)]) rfl ?_
      refine V_callV (pc := 55) C (ct_add hT hl (by decide) h) g249 g250 g251 g252 g36 ⟨by decide, by decide, pl_Jx4a65c_add_9ea2d⟩ (enc_ne63 (by decide)) (ct_obj hT rfl (by decide)) rfl ⟨by decide, by decide⟩ (rest := []) rfl (le8 rfl) dX7_hall_55 (fun v19 S18 h => ?_) (fun k9 S9 hk h => VX_out C htab hk (h.2 (by omega)))
      replace h := h.1 rfl
      refine V_st (st' := [Value.int v19]) rfl ?_
      refine V_pop (pc := 58) C dX7_hall_58 rfl ?_
      refine V_aload_n (pc := 59) C dX7_hall_59 rfl 0 rfl ?_
      refine V_getF (pc := 60) C hT f1_X7_0 g90 dX7_hall_60 ?_
      refine V_callV (pc := 63) C (ct_size hT hl h) g200 g201 g202 g203 g36 ⟨by decide, by decide, pl_Jx4a65c_size_8abf5⟩ (enc_ne63 (by decide)) (ct_obj hT rfl (by decide)) rfl ⟨by decide, by decide⟩ (rest := []) rfl (le8 rfl) dX7_hall_63 (fun v22 S21 h => ?_) (fun k9 S9 hk h => VX_out C htab hk (h.2 (by omega)))
      replace h := h.1 rfl
      refine V_st (st' := [Value.int v22]) rfl ?_
      refine V_iconst (pc := 66) C (v := 1) dX7_hall_66 rfl ?_
      refine V_isub (pc := 67) C dX7_hall_67 ?_
      exact V_iret (pc := 68) C hr rfl h dX7_hall_68
    · exact V_throw (pc := 25) C htab (k9 := 2) (by decide) at_RX7_2 str_RX7_48 ⟨by decide, le8 rfl⟩ dX7_hall_25 dX7_hall_28 dX7_hall_29 dX7_hall_31 dX7_hall_34 h
theorem pl_X7_hallAt : (parseMethodDescriptor yX7_hallAt.desc).map (fun d => d.parameters.length) = some 1 := by decide +kernel
def w_X7_hallAt_15  (Q : Nat → Int32 → Sg → Prop)  (S : Sg) : Prop := (S.2.1 + 1 ≤ nB1 ∧ S.2.2 + 6 ≤ nB2 ∧ Q 3 0 (tS S))
theorem k_X7_hallAt_15 (hT : xT X = tb1) (hl : l.stackTraces = false) (C : Cn X k0 p l R s m meth c cX7_hallAt RX7 2 6 82) (hr : meth.sig.returnType = (some (.object "Platterhouse$Hall"))) (hnm : meth.name = yX7_hallAt.name) (htab : ∀ x ∈ c.exceptionTable.toList, False)   {S : Sg} (h : w_X7_hallAt_15  Qa  S) : V X p l e R s m args below meth c 2 (QM X below args s S0 ad0 (rvR 3) Qa) S0 ad0 S 15 [] [] := by
  exact V_throwW (pc := 15) C htab (k9 := 3) (by decide) at_RX7_3 str_RX7_358 ⟨by decide, le8 rfl⟩ dX7_hallAt_15 dX7_hallAt_18 dX7_hallAt_19 dX7_hallAt_22 dX7_hallAt_25 h
def w_X7_hallAt (a1 : Int32) (S : Sg) (Q : Nat → Int32 → Sg → Prop) : Prop := ((a1 < 0 → w_X7_hallAt_15  Q  S) ∧ (¬ a1 < 0 → (w_size 0 S (fun k3 v2 S1 => (k3 = 0 → ((a1 < v2 → (w_get 0 a1 S1 (fun k6 v5 S4 => (k6 = 0 → Q 0 v5 S4) ∧ (¬ k6 = 0 → Q k6 0 S4)))) ∧ (¬ a1 < v2 → w_X7_hallAt_15  Q  S1))) ∧ (¬ k3 = 0 → Q k3 0 S1)))))
theorem ct_X7_hallAt (hT : xT X = tb1) (hl : l.stackTraces = false) {a1 : Int32} {S : Sg} (h : w_X7_hallAt a1 S Qa) : CT X k0 l yX7_hallAt cX7_hallAt 2 (some (.object "Platterhouse$Hall")) 6 82 [Value.ref (enc 0 0), Value.int a1] (rvR 3) S Qa :=
  CT_ofV (own := RX7) (by decide +kernel) (le8 rfl) rfl hl fun p e R s m args below meth c ad0 C hr hnm htab => by
    refine V_iload_n (pc := 0) C dX7_hallAt_0 rfl 1 rfl ?_
    refine V_if_lt (pc := 1) (tgt := 15) C dX7_hallAt_1 (by decide) h (fun h => ?_) (fun h => ?_)
    · refine V_sub [] rfl ?_
      exact k_X7_hallAt_15 hT hl C hr hnm htab  h
    · refine V_iload_n (pc := 4) C dX7_hallAt_4 rfl 1 rfl ?_
      refine V_aload_n (pc := 5) C dX7_hallAt_5 rfl 0 rfl ?_
      refine V_getF (pc := 6) C hT f1_X7_0 g90 dX7_hallAt_6 ?_
      refine V_callV (pc := 9) C (ct_size hT hl h) g200 g201 g202 g203 g36 ⟨by decide, by decide, pl_Jx4a65c_size_8abf5⟩ (enc_ne63 (by decide)) (ct_obj hT rfl (by decide)) rfl ⟨by decide, by decide⟩ (rest := [Value.int a1]) rfl (le8 rfl) dX7_hallAt_9 (fun v2 S1 h => ?_) (fun k9 S9 hk h => VX_out C htab hk (h.2 (by omega)))
      replace h := h.1 rfl
      refine V_st (st' := [Value.int v2, Value.int a1]) rfl ?_
      refine V_icmp_lt (pc := 12) (tgt := 26) C dX7_hallAt_12 (by decide) h (fun h => ?_) (fun h => ?_)
      · refine V_aload_n (pc := 26) C dX7_hallAt_26 rfl 0 rfl ?_
        refine V_getF (pc := 27) C hT f1_X7_0 g90 dX7_hallAt_27 ?_
        refine V_iload_n (pc := 30) C dX7_hallAt_30 rfl 1 rfl ?_
        refine V_callV (pc := 31) C (ct_get hT hl (by decide) h) g332 g333 g334 g335 g36 ⟨by decide, by decide, pl_Jx4a65c_get_915e3⟩ (enc_ne63 (by decide)) (ct_obj hT rfl (by decide)) rfl ⟨by decide, by decide⟩ (rest := []) rfl (le8 rfl) dX7_hallAt_31 (fun v5 S4 h => ?_) (fun k9 S9 hk h => VX_out C htab hk (h.2 (by omega)))
        replace h := h.1 rfl
        refine V_st (st' := [Value.ref (enc 3 (nt v5))]) rfl ?_
        refine V_cast (pc := 34) C hT (by decide) rfl rfl g220 dX7_hallAt_34 ?_
        exact V_aret (pc := 37) C hr rfl h dX7_hallAt_37
      · refine V_sub [] rfl ?_
        exact k_X7_hallAt_15 hT hl C hr hnm htab  h
theorem pl_X7_lamp : (parseMethodDescriptor yX7_lamp.desc).map (fun d => d.parameters.length) = some 3 := by decide +kernel
def w_X7_lamp (a1 : Int32) (a2 : Int32) (a3 : Int32) (S : Sg) (Q : Nat → Int32 → Sg → Prop) : Prop := (w_X7_hallAt a1 S (fun k3 v2 S1 => (k3 = 0 → (w_X7_needWithin a2 1 100000 S1 (fun k6 v5 S4 => (k6 = 0 → (∀ v7, v7 = S4.1 23 (nt v2) → (∀ S8, S8 = su S4 24 (nt v2) a2 → ((a3 = 0 → Q 0 v7 S8) ∧ (¬ a3 = 0 → (∀ S9, S9 = su S8 23 (nt v2) 0 → Q 0 v7 S9)))))) ∧ (¬ k6 = 0 → Q k6 0 S4)))) ∧ (¬ k3 = 0 → Q k3 0 S1)))
theorem ct_X7_lamp (hT : xT X = tb1) (hl : l.stackTraces = false) {a1 : Int32} {a2 : Int32} {a3 : Int32} {S : Sg} (h : w_X7_lamp a1 a2 a3 S Qa) : CT X k0 l yX7_lamp cX7_lamp 6 (some .int) 7 104 [Value.ref (enc 0 0), Value.int a1, Value.int a2, Value.int a3] rvI S Qa :=
  CT_ofV (own := RX7) (by decide +kernel) (le8 rfl) rfl hl fun p e R s m args below meth c ad0 C hr hnm htab => by
    refine V_aload_n (pc := 0) C dX7_lamp_0 rfl 0 rfl ?_
    refine V_iload_n (pc := 1) C dX7_lamp_1 rfl 1 rfl ?_
    refine V_callV (pc := 2) C (ct_X7_hallAt hT hl h) g312 g314 g4 g315 g33 ⟨by decide, by decide, pl_X7_hallAt⟩ (enc_ne63 (by decide)) (ct_obj hT rfl (by decide)) rfl ⟨by decide, by decide⟩ (rest := []) rfl (le8 rfl) dX7_lamp_2 (fun v2 S1 h => ?_) (fun k9 S9 hk h => VX_out C htab hk (h.2 (by omega)))
    replace h := h.1 rfl
    refine V_st (st' := [Value.ref (enc 3 (nt v2))]) rfl ?_
    refine V_astore (pc := 5) C dX7_lamp_5 (by decide) rfl ?_
    refine V_iload_n (pc := 7) C dX7_lamp_7 rfl 3 rfl ?_
    refine V_iconst (pc := 8) C (v := 1) dX7_lamp_8 rfl ?_
    refine V_ldc (pc := 9) C g346 dX7_lamp_9 ?_
    refine V_callS (pc := 11) C (ct_X7_needWithin hT hl h) g129 g130 g131 g33 ⟨by decide, by decide, pl_X7_needWithin⟩ ⟨by decide, by decide⟩ (rest := []) rfl (le8 rfl) dX7_lamp_11 (fun v5 S4 h => ?_) (fun k9 S9 hk h => VX_out C htab hk (h.2 (by omega)))
    replace h := h.1 rfl
    refine V_st (st' := []) rfl ?_
    refine V_aload (pc := 14) C dX7_lamp_14 0 rfl ?_
    refine V_getI (pc := 16) C hT f1_X1_3 g235 dX7_lamp_16 ?_
    refine V_nI fun v7 e9 => ?_
    replace h := h v7 e9; clear e9
    refine V_istore (pc := 19) C dX7_lamp_19 (by decide) rfl ?_
    refine V_aload (pc := 21) C dX7_lamp_21 1 rfl ?_
    refine V_iload_n (pc := 23) C dX7_lamp_23 rfl 4 rfl ?_
    refine V_putI (pc := 24) C hT tb1_ok f1_X1_4 (by unfold lc; decide) g237 (Or.inl rfl) (Or.inl rfl) dX7_lamp_24 (V_nx fun S8 e9 => ?_)
    replace h := h S8 e9; clear e9
    refine V_iload_n (pc := 27) C dX7_lamp_27 rfl 5 rfl ?_
    refine V_if_eq (pc := 28) (tgt := 37) C dX7_lamp_28 (by decide) h (fun h => ?_) (fun h => ?_)
    · refine V_iload (pc := 37) C dX7_lamp_37 0 rfl ?_
      exact V_iret (pc := 39) C hr rfl h dX7_lamp_39
    · refine V_aload (pc := 31) C dX7_lamp_31 1 rfl ?_
      refine V_iconst (pc := 33) C (v := 0) dX7_lamp_33 rfl ?_
      refine V_putI (pc := 34) C hT tb1_ok f1_X1_3 (by unfold lc; decide) g235 (Or.inl rfl) (Or.inl rfl) dX7_lamp_34 (V_nx fun S9 e9 => ?_)
      replace h := h S9 e9; clear e9
      refine V_iload (pc := 37) C dX7_lamp_37 0 rfl ?_
      exact V_iret (pc := 39) C hr rfl h dX7_lamp_39
theorem pl_X7_film : (parseMethodDescriptor yX7_film.desc).map (fun d => d.parameters.length) = some 3 := by decide +kernel
def w_X7_film (a1 : Int32) (a2 : Int32) (a3 : Int32) (S : Sg) (Q : Nat → Int32 → Sg → Prop) : Prop := (w_X7_needWithin a1 30 240 S (fun k3 v2 S1 => (k3 = 0 → (w_X7_needWithin a2 0 18 S1 (fun k6 v5 S4 => (k6 = 0 → (w_X7_needWithin a3 1 999 S4 (fun k9 v8 S7 => (k9 = 0 → (w_size 1 S7 (fun k12 v11 S10 => (k12 = 0 → ((v11 < 8 → ((S10.2.1 + 1 ≤ nB1 ∧ S10.2.2 + 9 ≤ nB2) ∧ (∀ v14, v14 = S10.1 10 4 → ∀ S13, S13 = nu S10 4 9 fdFilm → (w_size 1 S13 (fun k17 v16 S15 => (k17 = 0 → (w_X0_init v14 v16 a1 a2 a3 S15 (fun k20 v19 S18 => (k20 = 0 → (w_add 1 v14 S18 (fun k23 v22 S21 => (k23 = 0 → (w_size 1 S21 (fun k26 v25 S24 => (k26 = 0 → Q 0 (v25 - 1) S24) ∧ (¬ k26 = 0 → Q k26 0 S24)))) ∧ (¬ k23 = 0 → Q k23 0 S21)))) ∧ (¬ k20 = 0 → Q k20 0 S18)))) ∧ (¬ k17 = 0 → Q k17 0 S15)))))) ∧ (¬ v11 < 8 → (S10.2.1 + 1 ≤ nB1 ∧ S10.2.2 + 6 ≤ nB2 ∧ Q 2 0 (tS S10))))) ∧ (¬ k12 = 0 → Q k12 0 S10)))) ∧ (¬ k9 = 0 → Q k9 0 S7)))) ∧ (¬ k6 = 0 → Q k6 0 S4)))) ∧ (¬ k3 = 0 → Q k3 0 S1)))
theorem ct_X7_film (hT : xT X = tb1) (hl : l.stackTraces = false) {a1 : Int32} {a2 : Int32} {a3 : Int32} {S : Sg} (h : w_X7_film a1 a2 a3 S Qa) : CT X k0 l yX7_film cX7_film 4 (some .int) 8 181 [Value.ref (enc 0 0), Value.int a1, Value.int a2, Value.int a3] rvI S Qa :=
  CT_ofV (own := RX7) (by decide +kernel) (le8 rfl) rfl hl fun p e R s m args below meth c ad0 C hr hnm htab => by
    refine V_iload_n (pc := 0) C dX7_film_0 rfl 1 rfl ?_
    refine V_bipush (pc := 1) C (v := 30) dX7_film_1 rfl ?_
    refine V_sipush (pc := 3) C (v := 240) dX7_film_3 rfl ?_
    refine V_callS (pc := 6) C (ct_X7_needWithin hT hl h) g129 g130 g131 g33 ⟨by decide, by decide, pl_X7_needWithin⟩ ⟨by decide, by decide⟩ (rest := []) rfl (le8 rfl) dX7_film_6 (fun v2 S1 h => ?_) (fun k9 S9 hk h => VX_out C htab hk (h.2 (by omega)))
    replace h := h.1 rfl
    refine V_st (st' := []) rfl ?_
    refine V_iload_n (pc := 9) C dX7_film_9 rfl 2 rfl ?_
    refine V_iconst (pc := 10) C (v := 0) dX7_film_10 rfl ?_
    refine V_bipush (pc := 11) C (v := 18) dX7_film_11 rfl ?_
    refine V_callS (pc := 13) C (ct_X7_needWithin hT hl h) g129 g130 g131 g33 ⟨by decide, by decide, pl_X7_needWithin⟩ ⟨by decide, by decide⟩ (rest := []) rfl (le8 rfl) dX7_film_13 (fun v5 S4 h => ?_) (fun k9 S9 hk h => VX_out C htab hk (h.2 (by omega)))
    replace h := h.1 rfl
    refine V_st (st' := []) rfl ?_
    refine V_iload_n (pc := 16) C dX7_film_16 rfl 3 rfl ?_
    refine V_iconst (pc := 17) C (v := 1) dX7_film_17 rfl ?_
    refine V_sipush (pc := 18) C (v := 999) dX7_film_18 rfl ?_
    refine V_callS (pc := 21) C (ct_X7_needWithin hT hl h) g129 g130 g131 g33 ⟨by decide, by decide, pl_X7_needWithin⟩ ⟨by decide, by decide⟩ (rest := []) rfl (le8 rfl) dX7_film_21 (fun v8 S7 h => ?_) (fun k9 S9 hk h => VX_out C htab hk (h.2 (by omega)))
    replace h := h.1 rfl
    refine V_st (st' := []) rfl ?_
    refine V_aload_n (pc := 24) C dX7_film_24 rfl 0 rfl ?_
    refine V_getF (pc := 25) C hT f1_X7_1 g91 dX7_film_25 ?_
    refine V_callV (pc := 28) C (ct_size hT hl h) g200 g201 g202 g203 g36 ⟨by decide, by decide, pl_Jx4a65c_size_8abf5⟩ (enc_ne63 (by decide)) (ct_obj hT rfl (by decide)) rfl ⟨by decide, by decide⟩ (rest := []) rfl (le8 rfl) dX7_film_28 (fun v11 S10 h => ?_) (fun k9 S9 hk h => VX_out C htab hk (h.2 (by omega)))
    replace h := h.1 rfl
    refine V_st (st' := [Value.int v11]) rfl ?_
    refine V_bipush (pc := 31) C (v := 8) dX7_film_31 rfl ?_
    refine V_icmp_lt (pc := 33) (tgt := 46) C dX7_film_33 (by decide) h (fun h => ?_) (fun h => ?_)
    · refine V_aload_n (pc := 46) C dX7_film_46 rfl 0 rfl ?_
      refine V_getF (pc := 47) C hT f1_X7_1 g91 dX7_film_47 ?_
      refine V_newO (pc := 50) (k := 4) (fds := fdFilm) C hT tb1_g CF_X0 rfl (by decide) (by decide +kernel) (by decide +kernel) rfl g352 g353 g50 dX7_film_50 h (fun h => V_nR fun v14 e8 => V_nx fun S13 e9 => ?_)
      replace h := h v14 e8 S13 e9; clear e8 e9
      refine V_dup (pc := 53) C dX7_film_53 rfl ?_
      refine V_aload_n (pc := 54) C dX7_film_54 rfl 0 rfl ?_
      refine V_getF (pc := 55) C hT f1_X7_1 g91 dX7_film_55 ?_
      refine V_callV (pc := 58) C (ct_size hT hl h) g200 g201 g202 g203 g36 ⟨by decide, by decide, pl_Jx4a65c_size_8abf5⟩ (enc_ne63 (by decide)) (ct_obj hT rfl (by decide)) rfl ⟨by decide, by decide⟩ (rest := [Value.ref (enc 4 (nt v14)), Value.ref (enc 4 (nt v14)), Value.ref (enc 1 1)]) rfl (le8 rfl) dX7_film_58 (fun v16 S15 h => ?_) (fun k9 S9 hk h => VX_out C htab hk (h.2 (by omega)))
      replace h := h.1 rfl
      refine V_st (st' := [Value.int v16, Value.ref (enc 4 (nt v14)), Value.ref (enc 4 (nt v14)), Value.ref (enc 1 1)]) rfl ?_
      refine V_iload_n (pc := 61) C dX7_film_61 rfl 1 rfl ?_
      refine V_iload_n (pc := 62) C dX7_film_62 rfl 2 rfl ?_
      refine V_iload_n (pc := 63) C dX7_film_63 rfl 3 rfl ?_
      refine V_callI (pc := 64) C (ct_X0_init hT hl h) g354 g355 g356 g50 rfl ⟨by decide, by decide, pl_X0_init⟩ ⟨by decide, by decide⟩ (rest := [Value.ref (enc 4 (nt v14)), Value.ref (enc 1 1)]) rfl (le8 rfl) dX7_film_64 (fun v19 S18 h => ?_) (fun k9 S9 hk h => VX_out C htab hk (h.2 (by omega)))
      replace h := h.1 rfl
      refine V_st (st' := [Value.ref (enc 4 (nt v14)), Value.ref (enc 1 1)]) rfl ?_
      refine V_callV (pc := 67) C (ct_add hT hl (by decide) h) g249 g250 g251 g252 g36 ⟨by decide, by decide, pl_Jx4a65c_add_9ea2d⟩ (enc_ne63 (by decide)) (ct_obj hT rfl (by decide)) rfl ⟨by decide, by decide⟩ (rest := []) rfl (le8 rfl) dX7_film_67 (fun v22 S21 h => ?_) (fun k9 S9 hk h => VX_out C htab hk (h.2 (by omega)))
      replace h := h.1 rfl
      refine V_st (st' := [Value.int v22]) rfl ?_
      refine V_pop (pc := 70) C dX7_film_70 rfl ?_
      refine V_aload_n (pc := 71) C dX7_film_71 rfl 0 rfl ?_
      refine V_getF (pc := 72) C hT f1_X7_1 g91 dX7_film_72 ?_
      refine V_callV (pc := 75) C (ct_size hT hl h) g200 g201 g202 g203 g36 ⟨by decide, by decide, pl_Jx4a65c_size_8abf5⟩ (enc_ne63 (by decide)) (ct_obj hT rfl (by decide)) rfl ⟨by decide, by decide⟩ (rest := []) rfl (le8 rfl) dX7_film_75 (fun v25 S24 h => ?_) (fun k9 S9 hk h => VX_out C htab hk (h.2 (by omega)))
      replace h := h.1 rfl
      refine V_st (st' := [Value.int v25]) rfl ?_
      refine V_iconst (pc := 78) C (v := 1) dX7_film_78 rfl ?_
      refine V_isub (pc := 79) C dX7_film_79 ?_
      exact V_iret (pc := 80) C hr rfl h dX7_film_80
    · exact V_throw (pc := 36) C htab (k9 := 2) (by decide) at_RX7_2 str_RX7_72 ⟨by decide, le8 rfl⟩ dX7_film_36 dX7_film_39 dX7_film_40 dX7_film_42 dX7_film_45 h
theorem pl_X7_filmAt : (parseMethodDescriptor yX7_filmAt.desc).map (fun d => d.parameters.length) = some 1 := by decide +kernel
def w_X7_filmAt_15  (Q : Nat → Int32 → Sg → Prop)  (S : Sg) : Prop := (S.2.1 + 1 ≤ nB1 ∧ S.2.2 + 6 ≤ nB2 ∧ Q 3 0 (tS S))
theorem k_X7_filmAt_15 (hT : xT X = tb1) (hl : l.stackTraces = false) (C : Cn X k0 p l R s m meth c cX7_filmAt RX7 2 6 82) (hr : meth.sig.returnType = (some (.object "Platterhouse$Film"))) (hnm : meth.name = yX7_filmAt.name) (htab : ∀ x ∈ c.exceptionTable.toList, False)   {S : Sg} (h : w_X7_filmAt_15  Qa  S) : V X p l e R s m args below meth c 2 (QM X below args s S0 ad0 (rvR 4) Qa) S0 ad0 S 15 [] [] := by
  exact V_throwW (pc := 15) C htab (k9 := 3) (by decide) at_RX7_3 str_RX7_360 ⟨by decide, le8 rfl⟩ dX7_filmAt_15 dX7_filmAt_18 dX7_filmAt_19 dX7_filmAt_22 dX7_filmAt_25 h
def w_X7_filmAt (a1 : Int32) (S : Sg) (Q : Nat → Int32 → Sg → Prop) : Prop := ((a1 < 0 → w_X7_filmAt_15  Q  S) ∧ (¬ a1 < 0 → (w_size 1 S (fun k3 v2 S1 => (k3 = 0 → ((a1 < v2 → (w_get 1 a1 S1 (fun k6 v5 S4 => (k6 = 0 → Q 0 v5 S4) ∧ (¬ k6 = 0 → Q k6 0 S4)))) ∧ (¬ a1 < v2 → w_X7_filmAt_15  Q  S1))) ∧ (¬ k3 = 0 → Q k3 0 S1)))))
theorem ct_X7_filmAt (hT : xT X = tb1) (hl : l.stackTraces = false) {a1 : Int32} {S : Sg} (h : w_X7_filmAt a1 S Qa) : CT X k0 l yX7_filmAt cX7_filmAt 2 (some (.object "Platterhouse$Film")) 6 82 [Value.ref (enc 0 0), Value.int a1] (rvR 4) S Qa :=
  CT_ofV (own := RX7) (by decide +kernel) (le8 rfl) rfl hl fun p e R s m args below meth c ad0 C hr hnm htab => by
    refine V_iload_n (pc := 0) C dX7_filmAt_0 rfl 1 rfl ?_
    refine V_if_lt (pc := 1) (tgt := 15) C dX7_filmAt_1 (by decide) h (fun h => ?_) (fun h => ?_)
    · refine V_sub [] rfl ?_
      exact k_X7_filmAt_15 hT hl C hr hnm htab  h
    · refine V_iload_n (pc := 4) C dX7_filmAt_4 rfl 1 rfl ?_
      refine V_aload_n (pc := 5) C dX7_filmAt_5 rfl 0 rfl ?_
      refine V_getF (pc := 6) C hT f1_X7_1 g91 dX7_filmAt_6 ?_
      refine V_callV (pc := 9) C (ct_size hT hl h) g200 g201 g202 g203 g36 ⟨by decide, by decide, pl_Jx4a65c_size_8abf5⟩ (enc_ne63 (by decide)) (ct_obj hT rfl (by decide)) rfl ⟨by decide, by decide⟩ (rest := [Value.int a1]) rfl (le8 rfl) dX7_filmAt_9 (fun v2 S1 h => ?_) (fun k9 S9 hk h => VX_out C htab hk (h.2 (by omega)))
      replace h := h.1 rfl
      refine V_st (st' := [Value.int v2, Value.int a1]) rfl ?_
      refine V_icmp_lt (pc := 12) (tgt := 26) C dX7_filmAt_12 (by decide) h (fun h => ?_) (fun h => ?_)
      · refine V_aload_n (pc := 26) C dX7_filmAt_26 rfl 0 rfl ?_
        refine V_getF (pc := 27) C hT f1_X7_1 g91 dX7_filmAt_27 ?_
        refine V_iload_n (pc := 30) C dX7_filmAt_30 rfl 1 rfl ?_
        refine V_callV (pc := 31) C (ct_get hT hl (by decide) h) g332 g333 g334 g335 g36 ⟨by decide, by decide, pl_Jx4a65c_get_915e3⟩ (enc_ne63 (by decide)) (ct_obj hT rfl (by decide)) rfl ⟨by decide, by decide⟩ (rest := []) rfl (le8 rfl) dX7_filmAt_31 (fun v5 S4 h => ?_) (fun k9 S9 hk h => VX_out C htab hk (h.2 (by omega)))
        replace h := h.1 rfl
        refine V_st (st' := [Value.ref (enc 4 (nt v5))]) rfl ?_
        refine V_cast (pc := 34) C hT (by decide) rfl rfl g352 dX7_filmAt_34 ?_
        exact V_aret (pc := 37) C hr rfl h dX7_filmAt_37
      · refine V_sub [] rfl ?_
        exact k_X7_filmAt_15 hT hl C hr hnm htab  h
theorem pl_X7_terms : (parseMethodDescriptor yX7_terms.desc).map (fun d => d.parameters.length) = some 6 := by decide +kernel
def w_X7_terms (a1 : Int32) (a2 : Int32) (a3 : Int32) (a4 : Int32) (a5 : Int32) (a6 : Int32) (S : Sg) (Q : Nat → Int32 → Sg → Prop) : Prop := (w_X7_filmAt a1 S (fun k3 v2 S1 => (k3 = 0 → (w_X7_needWithin a2 0 100 S1 (fun k6 v5 S4 => (k6 = 0 → (w_X7_needWithin a3 0 100 S4 (fun k9 v8 S7 => (k9 = 0 → (w_X7_needWithin a4 0 100 S7 (fun k12 v11 S10 => (k12 = 0 → (w_X7_needWithin a5 0 100000 S10 (fun k15 v14 S13 => (k15 = 0 → (w_X7_needWithin a6 0 100000 S13 (fun k18 v17 S16 => (k18 = 0 → (∀ S19, S19 = su S16 34 (nt v2) a2 → (∀ S20, S20 = su S19 35 (nt v2) a3 → (∀ S21, S21 = su S20 36 (nt v2) a4 → (∀ S22, S22 = su S21 37 (nt v2) a5 → (∀ S23, S23 = su S22 38 (nt v2) a6 → Q 0 0 S23)))))) ∧ (¬ k18 = 0 → Q k18 0 S16)))) ∧ (¬ k15 = 0 → Q k15 0 S13)))) ∧ (¬ k12 = 0 → Q k12 0 S10)))) ∧ (¬ k9 = 0 → Q k9 0 S7)))) ∧ (¬ k6 = 0 → Q k6 0 S4)))) ∧ (¬ k3 = 0 → Q k3 0 S1)))
theorem ct_X7_terms (hT : xT X = tb1) (hl : l.stackTraces = false) {a1 : Int32} {a2 : Int32} {a3 : Int32} {a4 : Int32} {a5 : Int32} {a6 : Int32} {S : Sg} (h : w_X7_terms a1 a2 a3 a4 a5 a6 S Qa) : CT X k0 l yX7_terms cX7_terms 8 none 7 104 [Value.ref (enc 0 0), Value.int a1, Value.int a2, Value.int a3, Value.int a4, Value.int a5, Value.int a6] rvV S Qa :=
  CT_ofV (own := RX7) (by decide +kernel) (le8 rfl) rfl hl fun p e R s m args below meth c ad0 C hr hnm htab => by
    refine V_aload_n (pc := 0) C dX7_terms_0 rfl 0 rfl ?_
    refine V_iload_n (pc := 1) C dX7_terms_1 rfl 1 rfl ?_
    refine V_callV (pc := 2) C (ct_X7_filmAt hT hl h) g400 g402 g5 g403 g33 ⟨by decide, by decide, pl_X7_filmAt⟩ (enc_ne63 (by decide)) (ct_obj hT rfl (by decide)) rfl ⟨by decide, by decide⟩ (rest := []) rfl (le8 rfl) dX7_terms_2 (fun v2 S1 h => ?_) (fun k9 S9 hk h => VX_out C htab hk (h.2 (by omega)))
    replace h := h.1 rfl
    refine V_st (st' := [Value.ref (enc 4 (nt v2))]) rfl ?_
    refine V_astore (pc := 5) C dX7_terms_5 (by decide) rfl ?_
    refine V_iload_n (pc := 7) C dX7_terms_7 rfl 3 rfl ?_
    refine V_iconst (pc := 8) C (v := 0) dX7_terms_8 rfl ?_
    refine V_bipush (pc := 9) C (v := 100) dX7_terms_9 rfl ?_
    refine V_callS (pc := 11) C (ct_X7_needWithin hT hl h) g129 g130 g131 g33 ⟨by decide, by decide, pl_X7_needWithin⟩ ⟨by decide, by decide⟩ (rest := []) rfl (le8 rfl) dX7_terms_11 (fun v5 S4 h => ?_) (fun k9 S9 hk h => VX_out C htab hk (h.2 (by omega)))
    replace h := h.1 rfl
    refine V_st (st' := []) rfl ?_
    refine V_iload_n (pc := 14) C dX7_terms_14 rfl 4 rfl ?_
    refine V_iconst (pc := 15) C (v := 0) dX7_terms_15 rfl ?_
    refine V_bipush (pc := 16) C (v := 100) dX7_terms_16 rfl ?_
    refine V_callS (pc := 18) C (ct_X7_needWithin hT hl h) g129 g130 g131 g33 ⟨by decide, by decide, pl_X7_needWithin⟩ ⟨by decide, by decide⟩ (rest := []) rfl (le8 rfl) dX7_terms_18 (fun v8 S7 h => ?_) (fun k9 S9 hk h => VX_out C htab hk (h.2 (by omega)))
    replace h := h.1 rfl
    refine V_st (st' := []) rfl ?_
    refine V_iload (pc := 21) C dX7_terms_21 5 rfl ?_
    refine V_iconst (pc := 23) C (v := 0) dX7_terms_23 rfl ?_
    refine V_bipush (pc := 24) C (v := 100) dX7_terms_24 rfl ?_
    refine V_callS (pc := 26) C (ct_X7_needWithin hT hl h) g129 g130 g131 g33 ⟨by decide, by decide, pl_X7_needWithin⟩ ⟨by decide, by decide⟩ (rest := []) rfl (le8 rfl) dX7_terms_26 (fun v11 S10 h => ?_) (fun k9 S9 hk h => VX_out C htab hk (h.2 (by omega)))
    replace h := h.1 rfl
    refine V_st (st' := []) rfl ?_
    refine V_iload (pc := 29) C dX7_terms_29 6 rfl ?_
    refine V_iconst (pc := 31) C (v := 0) dX7_terms_31 rfl ?_
    refine V_ldc (pc := 32) C g346 dX7_terms_32 ?_
    refine V_callS (pc := 34) C (ct_X7_needWithin hT hl h) g129 g130 g131 g33 ⟨by decide, by decide, pl_X7_needWithin⟩ ⟨by decide, by decide⟩ (rest := []) rfl (le8 rfl) dX7_terms_34 (fun v14 S13 h => ?_) (fun k9 S9 hk h => VX_out C htab hk (h.2 (by omega)))
    replace h := h.1 rfl
    refine V_st (st' := []) rfl ?_
    refine V_iload (pc := 37) C dX7_terms_37 7 rfl ?_
    refine V_iconst (pc := 39) C (v := 0) dX7_terms_39 rfl ?_
    refine V_ldc (pc := 40) C g346 dX7_terms_40 ?_
    refine V_callS (pc := 42) C (ct_X7_needWithin hT hl h) g129 g130 g131 g33 ⟨by decide, by decide, pl_X7_needWithin⟩ ⟨by decide, by decide⟩ (rest := []) rfl (le8 rfl) dX7_terms_42 (fun v17 S16 h => ?_) (fun k9 S9 hk h => VX_out C htab hk (h.2 (by omega)))
    replace h := h.1 rfl
    refine V_st (st' := []) rfl ?_
    refine V_aload (pc := 45) C dX7_terms_45 0 rfl ?_
    refine V_iload_n (pc := 47) C dX7_terms_47 rfl 3 rfl ?_
    refine V_putI (pc := 48) C hT tb1_ok f1_X0_4 (by unfold lc; decide) g368 (Or.inl rfl) (Or.inl rfl) dX7_terms_48 (V_nx fun S19 e9 => ?_)
    replace h := h S19 e9; clear e9
    refine V_aload (pc := 51) C dX7_terms_51 0 rfl ?_
    refine V_iload_n (pc := 53) C dX7_terms_53 rfl 4 rfl ?_
    refine V_putI (pc := 54) C hT tb1_ok f1_X0_5 (by unfold lc; decide) g370 (Or.inl rfl) (Or.inl rfl) dX7_terms_54 (V_nx fun S20 e9 => ?_)
    replace h := h S20 e9; clear e9
    refine V_aload (pc := 57) C dX7_terms_57 0 rfl ?_
    refine V_iload (pc := 59) C dX7_terms_59 5 rfl ?_
    refine V_putI (pc := 61) C hT tb1_ok f1_X0_6 (by unfold lc; decide) g372 (Or.inl rfl) (Or.inl rfl) dX7_terms_61 (V_nx fun S21 e9 => ?_)
    replace h := h S21 e9; clear e9
    refine V_aload (pc := 64) C dX7_terms_64 0 rfl ?_
    refine V_iload (pc := 66) C dX7_terms_66 6 rfl ?_
    refine V_putI (pc := 68) C hT tb1_ok f1_X0_7 (by unfold lc; decide) g374 (Or.inl rfl) (Or.inl rfl) dX7_terms_68 (V_nx fun S22 e9 => ?_)
    replace h := h S22 e9; clear e9
    refine V_aload (pc := 71) C dX7_terms_71 0 rfl ?_
    refine V_iload (pc := 73) C dX7_terms_73 7 rfl ?_
    refine V_putI (pc := 75) C hT tb1_ok f1_X0_8 (by unfold lc; decide) g376 (Or.inl rfl) (Or.inl rfl) dX7_terms_75 (V_nx fun S23 e9 => ?_)
    replace h := h S23 e9; clear e9
    exact V_vret (pc := 78) C hr rfl h dX7_terms_78
theorem pl_X7_key : (parseMethodDescriptor yX7_key.desc).map (fun d => d.parameters.length) = some 4 := by decide +kernel
def w_X7_key (a1 : Int32) (a2 : Int32) (a3 : Int32) (a4 : Int32) (S : Sg) (Q : Nat → Int32 → Sg → Prop) : Prop := (w_X7_filmAt a1 S (fun k3 v2 S1 => (k3 = 0 → (w_X7_hallAt a2 S1 (fun k6 v5 S4 => (k6 = 0 → (w_X7_needWithin a3 0 100000 S4 (fun k9 v8 S7 => (k9 = 0 → (w_X7_needWithin a4 (a3 + 1) 110000 S7 (fun k12 v11 S10 => (k12 = 0 → (w_size 2 S10 (fun k15 v14 S13 => (k15 = 0 → ((v14 < 30 → ((S13.2.1 + 1 ≤ nB1 ∧ S13.2.2 + 4 ≤ nB2) ∧ (∀ v17, v17 = S13.1 10 5 → ∀ S16, S16 = nu S13 5 4 fdKey → (w_X3_init v17 (S16.1 30 (nt v2)) (S16.1 20 (nt v5)) a3 a4 S16 (fun k20 v19 S18 => (k20 = 0 → (w_add 2 v17 S18 (fun k23 v22 S21 => (k23 = 0 → (w_size 2 S21 (fun k26 v25 S24 => (k26 = 0 → Q 0 (v25 - 1) S24) ∧ (¬ k26 = 0 → Q k26 0 S24)))) ∧ (¬ k23 = 0 → Q k23 0 S21)))) ∧ (¬ k20 = 0 → Q k20 0 S18)))))) ∧ (¬ v14 < 30 → (S13.2.1 + 1 ≤ nB1 ∧ S13.2.2 + 6 ≤ nB2 ∧ Q 2 0 (tS S13))))) ∧ (¬ k15 = 0 → Q k15 0 S13)))) ∧ (¬ k12 = 0 → Q k12 0 S10)))) ∧ (¬ k9 = 0 → Q k9 0 S7)))) ∧ (¬ k6 = 0 → Q k6 0 S4)))) ∧ (¬ k3 = 0 → Q k3 0 S1)))
theorem ct_X7_key (hT : xT X = tb1) (hl : l.stackTraces = false) {a1 : Int32} {a2 : Int32} {a3 : Int32} {a4 : Int32} {S : Sg} (h : w_X7_key a1 a2 a3 a4 S Qa) : CT X k0 l yX7_key cX7_key 7 (some .int) 8 181 [Value.ref (enc 0 0), Value.int a1, Value.int a2, Value.int a3, Value.int a4] rvI S Qa :=
  CT_ofV (own := RX7) (by decide +kernel) (le8 rfl) rfl hl fun p e R s m args below meth c ad0 C hr hnm htab => by
    refine V_aload_n (pc := 0) C dX7_key_0 rfl 0 rfl ?_
    refine V_iload_n (pc := 1) C dX7_key_1 rfl 1 rfl ?_
    refine V_callV (pc := 2) C (ct_X7_filmAt hT hl h) g400 g402 g5 g403 g33 ⟨by decide, by decide, pl_X7_filmAt⟩ (enc_ne63 (by decide)) (ct_obj hT rfl (by decide)) rfl ⟨by decide, by decide⟩ (rest := []) rfl (le8 rfl) dX7_key_2 (fun v2 S1 h => ?_) (fun k9 S9 hk h => VX_out C htab hk (h.2 (by omega)))
    replace h := h.1 rfl
    refine V_st (st' := [Value.ref (enc 4 (nt v2))]) rfl ?_
    refine V_astore (pc := 5) C dX7_key_5 (by decide) rfl ?_
    refine V_aload_n (pc := 7) C dX7_key_7 rfl 1 rfl ?_
    refine V_iload_n (pc := 8) C dX7_key_8 rfl 3 rfl ?_
    refine V_callV (pc := 9) C (ct_X7_hallAt hT hl h) g312 g314 g4 g315 g33 ⟨by decide, by decide, pl_X7_hallAt⟩ (enc_ne63 (by decide)) (ct_obj hT rfl (by decide)) rfl ⟨by decide, by decide⟩ (rest := []) rfl (le8 rfl) dX7_key_9 (fun v5 S4 h => ?_) (fun k9 S9 hk h => VX_out C htab hk (h.2 (by omega)))
    replace h := h.1 rfl
    refine V_st (st' := [Value.ref (enc 3 (nt v5))]) rfl ?_
    refine V_astore (pc := 12) C dX7_key_12 (by decide) rfl ?_
    refine V_iload_n (pc := 14) C dX7_key_14 rfl 5 rfl ?_
    refine V_iconst (pc := 15) C (v := 0) dX7_key_15 rfl ?_
    refine V_ldc (pc := 16) C g346 dX7_key_16 ?_
    refine V_callS (pc := 18) C (ct_X7_needWithin hT hl h) g129 g130 g131 g33 ⟨by decide, by decide, pl_X7_needWithin⟩ ⟨by decide, by decide⟩ (rest := []) rfl (le8 rfl) dX7_key_18 (fun v8 S7 h => ?_) (fun k9 S9 hk h => VX_out C htab hk (h.2 (by omega)))
    replace h := h.1 rfl
    refine V_st (st' := []) rfl ?_
    refine V_iload (pc := 21) C dX7_key_21 6 rfl ?_
    refine V_iload_n (pc := 23) C dX7_key_23 rfl 5 rfl ?_
    refine V_iconst (pc := 24) C (v := 1) dX7_key_24 rfl ?_
    refine V_iadd (pc := 25) C dX7_key_25 ?_
    refine V_ldc (pc := 26) C g405 dX7_key_26 ?_
    refine V_callS (pc := 28) C (ct_X7_needWithin hT hl h) g129 g130 g131 g33 ⟨by decide, by decide, pl_X7_needWithin⟩ ⟨by decide, by decide⟩ (rest := []) rfl (le8 rfl) dX7_key_28 (fun v11 S10 h => ?_) (fun k9 S9 hk h => VX_out C htab hk (h.2 (by omega)))
    replace h := h.1 rfl
    refine V_st (st' := []) rfl ?_
    refine V_aload_n (pc := 31) C dX7_key_31 rfl 2 rfl ?_
    refine V_getF (pc := 32) C hT f1_X7_2 g92 dX7_key_32 ?_
    refine V_callV (pc := 35) C (ct_size hT hl h) g200 g201 g202 g203 g36 ⟨by decide, by decide, pl_Jx4a65c_size_8abf5⟩ (enc_ne63 (by decide)) (ct_obj hT rfl (by decide)) rfl ⟨by decide, by decide⟩ (rest := []) rfl (le8 rfl) dX7_key_35 (fun v14 S13 h => ?_) (fun k9 S9 hk h => VX_out C htab hk (h.2 (by omega)))
    replace h := h.1 rfl
    refine V_st (st' := [Value.int v14]) rfl ?_
    refine V_bipush (pc := 38) C (v := 30) dX7_key_38 rfl ?_
    refine V_icmp_lt (pc := 40) (tgt := 53) C dX7_key_40 (by decide) h (fun h => ?_) (fun h => ?_)
    · refine V_aload_n (pc := 53) C dX7_key_53 rfl 2 rfl ?_
      refine V_getF (pc := 54) C hT f1_X7_2 g92 dX7_key_54 ?_
      refine V_newO (pc := 57) (k := 5) (fds := fdKey) C hT tb1_g CF_X3 rfl (by decide) (by decide +kernel) (by decide +kernel) rfl g407 g408 g51 dX7_key_57 h (fun h => V_nR fun v17 e8 => V_nx fun S16 e9 => ?_)
      replace h := h v17 e8 S16 e9; clear e8 e9
      refine V_dup (pc := 60) C dX7_key_60 rfl ?_
      refine V_aload (pc := 61) C dX7_key_61 1 rfl ?_
      refine V_getI (pc := 63) C hT f1_X0_0 g359 dX7_key_63 ?_
      refine V_aload (pc := 66) C dX7_key_66 0 rfl ?_
      refine V_getI (pc := 68) C hT f1_X1_0 g227 dX7_key_68 ?_
      refine V_iload_n (pc := 71) C dX7_key_71 rfl 5 rfl ?_
      refine V_iload (pc := 72) C dX7_key_72 6 rfl ?_
      refine V_callI (pc := 74) C (ct_X3_init hT hl h) g409 g410 g411 g51 rfl ⟨by decide, by decide, pl_X3_init⟩ ⟨by decide, by decide⟩ (rest := [Value.ref (enc 5 (nt v17)), Value.ref (enc 1 2)]) rfl (le8 rfl) dX7_key_74 (fun v19 S18 h => ?_) (fun k9 S9 hk h => VX_out C htab hk (h.2 (by omega)))
      replace h := h.1 rfl
      refine V_st (st' := [Value.ref (enc 5 (nt v17)), Value.ref (enc 1 2)]) rfl ?_
      refine V_callV (pc := 77) C (ct_add hT hl (by decide) h) g249 g250 g251 g252 g36 ⟨by decide, by decide, pl_Jx4a65c_add_9ea2d⟩ (enc_ne63 (by decide)) (ct_obj hT rfl (by decide)) rfl ⟨by decide, by decide⟩ (rest := []) rfl (le8 rfl) dX7_key_77 (fun v22 S21 h => ?_) (fun k9 S9 hk h => VX_out C htab hk (h.2 (by omega)))
      replace h := h.1 rfl
      refine V_st (st' := [Value.int v22]) rfl ?_
      refine V_pop (pc := 80) C dX7_key_80 rfl ?_
      refine V_aload_n (pc := 81) C dX7_key_81 rfl 2 rfl ?_
      refine V_getF (pc := 82) C hT f1_X7_2 g92 dX7_key_82 ?_
      refine V_callV (pc := 85) C (ct_size hT hl h) g200 g201 g202 g203 g36 ⟨by decide, by decide, pl_Jx4a65c_size_8abf5⟩ (enc_ne63 (by decide)) (ct_obj hT rfl (by decide)) rfl ⟨by decide, by decide⟩ (rest := []) rfl (le8 rfl) dX7_key_85 (fun v25 S24 h => ?_) (fun k9 S9 hk h => VX_out C htab hk (h.2 (by omega)))
      replace h := h.1 rfl
      refine V_st (st' := [Value.int v25]) rfl ?_
      refine V_iconst (pc := 88) C (v := 1) dX7_key_88 rfl ?_
      refine V_isub (pc := 89) C dX7_key_89 ?_
      exact V_iret (pc := 90) C hr rfl h dX7_key_90
    · exact V_throw (pc := 43) C htab (k9 := 2) (by decide) at_RX7_2 str_RX7_99 ⟨by decide, le8 rfl⟩ dX7_key_43 dX7_key_46 dX7_key_47 dX7_key_49 dX7_key_52 h
theorem pl_X7_spread : (parseMethodDescriptor yX7_spread.desc).map (fun d => d.parameters.length) = some 1 := by decide +kernel
def w_X7_spread (a1 : Int32) (S : Sg) (Q : Nat → Int32 → Sg → Prop) : Prop := (w_X7_needWithin a1 0 60 S (fun k3 v2 S1 => (k3 = 0 → (∀ v4, v4 = S1.1 7 0 → (∀ S5, S5 = su S1 7 0 a1 → Q 0 v4 S5))) ∧ (¬ k3 = 0 → Q k3 0 S1)))
theorem ct_X7_spread (hT : xT X = tb1) (hl : l.stackTraces = false) {a1 : Int32} {S : Sg} (h : w_X7_spread a1 S Qa) : CT X k0 l yX7_spread cX7_spread 3 (some .int) 7 104 [Value.ref (enc 0 0), Value.int a1] rvI S Qa :=
  CT_ofV (own := RX7) (by decide +kernel) (le8 rfl) rfl hl fun p e R s m args below meth c ad0 C hr hnm htab => by
    refine V_iload_n (pc := 0) C dX7_spread_0 rfl 1 rfl ?_
    refine V_iconst (pc := 1) C (v := 0) dX7_spread_1 rfl ?_
    refine V_bipush (pc := 2) C (v := 60) dX7_spread_2 rfl ?_
    refine V_callS (pc := 4) C (ct_X7_needWithin hT hl h) g129 g130 g131 g33 ⟨by decide, by decide, pl_X7_needWithin⟩ ⟨by decide, by decide⟩ (rest := []) rfl (le8 rfl) dX7_spread_4 (fun v2 S1 h => ?_) (fun k9 S9 hk h => VX_out C htab hk (h.2 (by omega)))
    replace h := h.1 rfl
    refine V_st (st' := []) rfl ?_
    refine V_aload_n (pc := 7) C dX7_spread_7 rfl 0 rfl ?_
    refine V_getI (pc := 8) C hT f1_X7_7 g97 dX7_spread_8 ?_
    refine V_nI fun v4 e9 => ?_
    replace h := h v4 e9; clear e9
    refine V_istore_n (pc := 11) C dX7_spread_11 rfl (by decide) rfl ?_
    refine V_aload_n (pc := 12) C dX7_spread_12 rfl 1 rfl ?_
    refine V_iload_n (pc := 13) C dX7_spread_13 rfl 2 rfl ?_
    refine V_putI (pc := 14) C hT tb1_ok f1_X7_7 (by unfold lc; decide) g97 (Or.inl rfl) (Or.inl rfl) dX7_spread_14 (V_nx fun S5 e9 => ?_)
    replace h := h S5 e9; clear e9
    refine V_iload_n (pc := 17) C dX7_spread_17 rfl 0 rfl ?_
    exact V_iret (pc := 18) C hr rfl h dX7_spread_18
theorem pl_X7_isOpen : (parseMethodDescriptor yX7_isOpen.desc).map (fun d => d.parameters.length) = some 3 := by decide +kernel
def w_X7_isOpen_78 (k3 : Int32 → Int32 → Int32 → Int32 → Sg → Prop) (Q : Nat → Int32 → Sg → Prop) (x1 : Int32) (x2 : Int32) (x3 : Int32) (x4 : Int32) (S : Sg) : Prop := k3 x1 x2 x3 (x4 + 1) S
theorem k_X7_isOpen_78 (hT : xT X = tb1) (hl : l.stackTraces = false) (C : Cn X k0 p l R s m meth c cX7_isOpen RX7 6 4 81) (hr : meth.sig.returnType = (some .boolean)) (hnm : meth.name = yX7_isOpen.name) (htab : ∀ x ∈ c.exceptionTable.toList, False) {k3 : Int32 → Int32 → Int32 → Int32 → Sg → Prop} (hk3 : ∀ {x1 : Int32} {x2 : Int32} {x3 : Int32} {x4 : Int32} {S : Sg}, k3 x1 x2 x3 x4 S → V X p l e R s m args below meth c 6 (QM X below args s S0 ad0 rvI Qa) S0 ad0 S 3 [(0, Value.ref (enc 0 0)), (1, Value.ref (enc 4 (nt x1))), (2, Value.ref (enc 3 (nt x2))), (3, Value.int x3), (4, Value.int x4)] []) {x1 : Int32} {x2 : Int32} {x3 : Int32} {x4 : Int32} {S : Sg} (h : w_X7_isOpen_78 k3 Qa x1 x2 x3 x4 S) : V X p l e R s m args below meth c 6 (QM X below args s S0 ad0 rvI Qa) S0 ad0 S 78 [(0, Value.ref (enc 0 0)), (1, Value.ref (enc 4 (nt x1))), (2, Value.ref (enc 3 (nt x2))), (3, Value.int x3), (4, Value.int x4)] [] := by
  refine V_iinc (pc := 78) C (a := 4) (v := x4 + 1) dX7_isOpen_78 rfl rfl (by decide) rfl ?_
  refine V_goto (pc := 81) (tgt := 3) C dX7_isOpen_81 (by decide) ?_
  refine V_sub [1, 2, 3, 4, 0] rfl ?_
  exact hk3 h
def w_X7_isOpen_3  (Q : Nat → Int32 → Sg → Prop) : Nat → Int32 → Int32 → Int32 → Int32 → Sg → Prop
  | 0, _, _, _, _, _ => False
  | n + 1, x1, x2, x3, x4, S => (w_size 2 S (fun k3 v2 S1 => (k3 = 0 → ((v2 ≤ x4 → Q 0 0 S1) ∧ (¬ v2 ≤ x4 → (w_get 2 x4 S1 (fun k6 v5 S4 => (k6 = 0 → (((S4.1 40 (nt v5)) = (S4.1 30 (nt x1)) → (((S4.1 41 (nt v5)) = (S4.1 20 (nt x2)) → ((x3 < (S4.1 42 (nt v5)) → w_X7_isOpen_78 (fun x1 x2 x3 x4 S => w_X7_isOpen_3  Q n x1 x2 x3 x4 S) Q x1 x2 x3 x4 S4) ∧ (¬ x3 < (S4.1 42 (nt v5)) → (((S4.1 43 (nt v5)) < (x3 + (S4.1 31 (nt x1))) → w_X7_isOpen_78 (fun x1 x2 x3 x4 S => w_X7_isOpen_3  Q n x1 x2 x3 x4 S) Q x1 x2 x3 x4 S4) ∧ (¬ (S4.1 43 (nt v5)) < (x3 + (S4.1 31 (nt x1))) → Q 0 1 S4))))) ∧ (¬ (S4.1 41 (nt v5)) = (S4.1 20 (nt x2)) → w_X7_isOpen_78 (fun x1 x2 x3 x4 S => w_X7_isOpen_3  Q n x1 x2 x3 x4 S) Q x1 x2 x3 x4 S4))) ∧ (¬ (S4.1 40 (nt v5)) = (S4.1 30 (nt x1)) → w_X7_isOpen_78 (fun x1 x2 x3 x4 S => w_X7_isOpen_3  Q n x1 x2 x3 x4 S) Q x1 x2 x3 x4 S4))) ∧ (¬ k6 = 0 → Q k6 0 S4)))))) ∧ (¬ k3 = 0 → Q k3 0 S1)))
theorem k_X7_isOpen_3 (hT : xT X = tb1) (hl : l.stackTraces = false) (C : Cn X k0 p l R s m meth c cX7_isOpen RX7 6 4 81) (hr : meth.sig.returnType = (some .boolean)) (hnm : meth.name = yX7_isOpen.name) (htab : ∀ x ∈ c.exceptionTable.toList, False)  : ∀ n {x1 : Int32} {x2 : Int32} {x3 : Int32} {x4 : Int32} {S : Sg}, w_X7_isOpen_3  Qa n x1 x2 x3 x4 S → V X p l e R s m args below meth c 6 (QM X below args s S0 ad0 rvI Qa) S0 ad0 S 3 [(0, Value.ref (enc 0 0)), (1, Value.ref (enc 4 (nt x1))), (2, Value.ref (enc 3 (nt x2))), (3, Value.int x3), (4, Value.int x4)] [] := by
  intro n
  induction n with
  | zero => intro x1 x2 x3 x4 S h; exact h.elim
  | succ n ih =>
    intro x1 x2 x3 x4 S h
    refine V_iload (pc := 3) C dX7_isOpen_3 4 rfl ?_
    refine V_aload_n (pc := 5) C dX7_isOpen_5 rfl 0 rfl ?_
    refine V_getF (pc := 6) C hT f1_X7_2 g92 dX7_isOpen_6 ?_
    refine V_callV (pc := 9) C (ct_size hT hl h) g200 g201 g202 g203 g36 ⟨by decide, by decide, pl_Jx4a65c_size_8abf5⟩ (enc_ne63 (by decide)) (ct_obj hT rfl (by decide)) rfl ⟨by decide, by decide⟩ (rest := [Value.int x4]) rfl (le8 rfl) dX7_isOpen_9 (fun v2 S1 h => ?_) (fun k9 S9 hk h => VX_out C htab hk (h.2 (by omega)))
    replace h := h.1 rfl
    refine V_st (st' := [Value.int v2, Value.int x4]) rfl ?_
    refine V_icmp_ge (pc := 12) (tgt := 84) C dX7_isOpen_12 (by decide) h (fun h => ?_) (fun h => ?_)
    · refine V_iconst (pc := 84) C (v := 0) dX7_isOpen_84 rfl ?_
      exact V_zret (pc := 85) C hr (by decide) rfl h dX7_isOpen_85
    · refine V_aload_n (pc := 15) C dX7_isOpen_15 rfl 0 rfl ?_
      refine V_getF (pc := 16) C hT f1_X7_2 g92 dX7_isOpen_16 ?_
      refine V_iload (pc := 19) C dX7_isOpen_19 4 rfl ?_
      refine V_callV (pc := 21) C (ct_get hT hl (by decide) h) g332 g333 g334 g335 g36 ⟨by decide, by decide, pl_Jx4a65c_get_915e3⟩ (enc_ne63 (by decide)) (ct_obj hT rfl (by decide)) rfl ⟨by decide, by decide⟩ (rest := []) rfl (le8 rfl) dX7_isOpen_21 (fun v5 S4 h => ?_) (fun k9 S9 hk h => VX_out C htab hk (h.2 (by omega)))
      replace h := h.1 rfl
      refine V_st (st' := [Value.ref (enc 5 (nt v5))]) rfl ?_
      refine V_cast (pc := 24) C hT (by decide) rfl rfl g407 dX7_isOpen_24 ?_
      refine V_astore (pc := 27) C dX7_isOpen_27 (by decide) rfl ?_
      refine V_aload (pc := 29) C dX7_isOpen_29 0 rfl ?_
      refine V_getI (pc := 31) C hT f1_X3_0 g414 dX7_isOpen_31 ?_
      refine V_aload_n (pc := 34) C dX7_isOpen_34 rfl 2 rfl ?_
      refine V_getI (pc := 35) C hT f1_X0_0 g359 dX7_isOpen_35 ?_
      refine V_icmp_ne (pc := 38) (tgt := 78) C dX7_isOpen_38 (by decide) h (fun h => ?_) (fun h => ?_)
      · refine V_sub [1, 2, 3, 4, 5] rfl ?_
        exact k_X7_isOpen_78 hT hl C hr hnm htab (fun h => ih h) h
      · refine V_aload (pc := 41) C dX7_isOpen_41 0 rfl ?_
        refine V_getI (pc := 43) C hT f1_X3_1 g416 dX7_isOpen_43 ?_
        refine V_aload_n (pc := 46) C dX7_isOpen_46 rfl 3 rfl ?_
        refine V_getI (pc := 47) C hT f1_X1_0 g227 dX7_isOpen_47 ?_
        refine V_icmp_ne (pc := 50) (tgt := 78) C dX7_isOpen_50 (by decide) h (fun h => ?_) (fun h => ?_)
        · refine V_sub [1, 2, 3, 4, 5] rfl ?_
          exact k_X7_isOpen_78 hT hl C hr hnm htab (fun h => ih h) h
        · refine V_aload (pc := 53) C dX7_isOpen_53 0 rfl ?_
          refine V_getI (pc := 55) C hT f1_X3_2 g418 dX7_isOpen_55 ?_
          refine V_iload_n (pc := 58) C dX7_isOpen_58 rfl 4 rfl ?_
          refine V_icmp_gt (pc := 59) (tgt := 78) C dX7_isOpen_59 (by decide) h (fun h => ?_) (fun h => ?_)
          · refine V_sub [1, 2, 3, 4, 5] rfl ?_
            exact k_X7_isOpen_78 hT hl C hr hnm htab (fun h => ih h) h
          · refine V_aload (pc := 62) C dX7_isOpen_62 0 rfl ?_
            refine V_getI (pc := 64) C hT f1_X3_3 g420 dX7_isOpen_64 ?_
            refine V_iload_n (pc := 67) C dX7_isOpen_67 rfl 4 rfl ?_
            refine V_aload_n (pc := 68) C dX7_isOpen_68 rfl 2 rfl ?_
            refine V_getI (pc := 69) C hT f1_X0_1 g362 dX7_isOpen_69 ?_
            refine V_iadd (pc := 72) C dX7_isOpen_72 ?_
            refine V_icmp_lt (pc := 73) (tgt := 78) C dX7_isOpen_73 (by decide) h (fun h => ?_) (fun h => ?_)
            · refine V_sub [1, 2, 3, 4, 5] rfl ?_
              exact k_X7_isOpen_78 hT hl C hr hnm htab (fun h => ih h) h
            · refine V_iconst (pc := 76) C (v := 1) dX7_isOpen_76 rfl ?_
              exact V_zret (pc := 77) C hr (by decide) rfl h dX7_isOpen_77
def w_X7_isOpen (a1 : Int32) (a2 : Int32) (a3 : Int32) (S : Sg) (Q : Nat → Int32 → Sg → Prop) : Prop := ∃ n9, w_X7_isOpen_3  Q n9 a1 a2 a3 0 S
theorem ct_X7_isOpen (hT : xT X = tb1) (hl : l.stackTraces = false) {a1 : Int32} {a2 : Int32} {a3 : Int32} {S : Sg} (h : w_X7_isOpen a1 a2 a3 S Qa) : CT X k0 l yX7_isOpen cX7_isOpen 6 (some .boolean) 4 81 [Value.ref (enc 0 0), Value.ref (enc 4 (nt a1)), Value.ref (enc 3 (nt a2)), Value.int a3] rvI S Qa :=
  CT_ofV (own := RX7) (by decide +kernel) (le8 rfl) rfl hl fun p e R s m args below meth c ad0 C hr hnm htab => by
    refine V_iconst (pc := 0) C (v := 0) dX7_isOpen_0 rfl ?_
    refine V_istore (pc := 1) C dX7_isOpen_1 (by decide) rfl ?_
    refine V_sub [1, 2, 3, 4, 0] rfl ?_
    obtain ⟨n9, h⟩ := h
    exact k_X7_isOpen_3 hT hl C hr hnm htab  n9 h
theorem pl_X7_isHallTaken : (parseMethodDescriptor yX7_isHallTaken.desc).map (fun d => d.parameters.length) = some 3 := by decide +kernel
def w_X7_isHallTaken_87 (k11 : Int32 → Int32 → Int32 → Int32 → Sg → Prop) (Q : Nat → Int32 → Sg → Prop) (x2 : Int32) (x3 : Int32) (x4 : Int32) (x5 : Int32) (S : Sg) : Prop := k11 x2 x3 x4 (x5 + 1) S
theorem k_X7_isHallTaken_87 (hT : xT X = tb1) (hl : l.stackTraces = false) (C : Cn X k0 p l R s m meth c cX7_isHallTaken RX7 7 4 81) (hr : meth.sig.returnType = (some .boolean)) (hnm : meth.name = yX7_isHallTaken.name) (htab : ∀ x ∈ c.exceptionTable.toList, False) {k11 : Int32 → Int32 → Int32 → Int32 → Sg → Prop} (hk11 : ∀ {x2 : Int32} {x3 : Int32} {x4 : Int32} {x5 : Int32} {S : Sg}, k11 x2 x3 x4 x5 S → V X p l e R s m args below meth c 7 (QM X below args s S0 ad0 rvI Qa) S0 ad0 S 11 [(0, Value.ref (enc 0 0)), (2, Value.ref (enc 3 (nt x2))), (3, Value.int x3), (4, Value.int x4), (5, Value.int x5)] []) {x2 : Int32} {x3 : Int32} {x4 : Int32} {x5 : Int32} {S : Sg} (h : w_X7_isHallTaken_87 k11 Qa x2 x3 x4 x5 S) : V X p l e R s m args below meth c 7 (QM X below args s S0 ad0 rvI Qa) S0 ad0 S 87 [(0, Value.ref (enc 0 0)), (2, Value.ref (enc 3 (nt x2))), (3, Value.int x3), (4, Value.int x4), (5, Value.int x5)] [] := by
  refine V_iinc (pc := 87) C (a := 4) (v := x5 + 1) dX7_isHallTaken_87 rfl rfl (by decide) rfl ?_
  refine V_goto (pc := 90) (tgt := 11) C dX7_isHallTaken_90 (by decide) ?_
  refine V_sub [1, 2, 3, 4, 0] rfl ?_
  exact hk11 h
def w_X7_isHallTaken_11  (Q : Nat → Int32 → Sg → Prop) : Nat → Int32 → Int32 → Int32 → Int32 → Sg → Prop
  | 0, _, _, _, _, _ => False
  | n + 1, x2, x3, x4, x5, S => (w_size 3 S (fun k3 v2 S1 => (k3 = 0 → ((v2 ≤ x5 → Q 0 0 S1) ∧ (¬ v2 ≤ x5 → (w_get 3 x5 S1 (fun k6 v5 S4 => (k6 = 0 → (¬ S4.1 52 (nt v5) < 0 ∧ (((S4.1 20 (nt (S4.1 52 (nt v5)))) = (S4.1 20 (nt x2)) → (w_X5_isToCome v5 S4 (fun k9 v8 S7 => (k9 = 0 → ((v8 = 0 → w_X7_isHallTaken_87 (fun x2 x3 x4 x5 S => w_X7_isHallTaken_11  Q n x2 x3 x4 x5 S) Q x2 x3 x4 x5 S7) ∧ (¬ v8 = 0 → (w_X5_end v5 S7 (fun k12 v11 S10 => (k12 = 0 → (((v11 + 20) ≤ x3 → w_X7_isHallTaken_87 (fun x2 x3 x4 x5 S => w_X7_isHallTaken_11  Q n x2 x3 x4 x5 S) Q x2 x3 x4 x5 S10) ∧ (¬ (v11 + 20) ≤ x3 → (((x4 + 20) ≤ (S10.1 53 (nt v5)) → w_X7_isHallTaken_87 (fun x2 x3 x4 x5 S => w_X7_isHallTaken_11  Q n x2 x3 x4 x5 S) Q x2 x3 x4 x5 S10) ∧ (¬ (x4 + 20) ≤ (S10.1 53 (nt v5)) → Q 0 1 S10))))) ∧ (¬ k12 = 0 → Q k12 0 S10)))))) ∧ (¬ k9 = 0 → Q k9 0 S7)))) ∧ (¬ (S4.1 20 (nt (S4.1 52 (nt v5)))) = (S4.1 20 (nt x2)) → w_X7_isHallTaken_87 (fun x2 x3 x4 x5 S => w_X7_isHallTaken_11  Q n x2 x3 x4 x5 S) Q x2 x3 x4 x5 S4)))) ∧ (¬ k6 = 0 → Q k6 0 S4)))))) ∧ (¬ k3 = 0 → Q k3 0 S1)))
theorem k_X7_isHallTaken_11 (hT : xT X = tb1) (hl : l.stackTraces = false) (C : Cn X k0 p l R s m meth c cX7_isHallTaken RX7 7 4 81) (hr : meth.sig.returnType = (some .boolean)) (hnm : meth.name = yX7_isHallTaken.name) (htab : ∀ x ∈ c.exceptionTable.toList, False)  : ∀ n {x2 : Int32} {x3 : Int32} {x4 : Int32} {x5 : Int32} {S : Sg}, w_X7_isHallTaken_11  Qa n x2 x3 x4 x5 S → V X p l e R s m args below meth c 7 (QM X below args s S0 ad0 rvI Qa) S0 ad0 S 11 [(0, Value.ref (enc 0 0)), (2, Value.ref (enc 3 (nt x2))), (3, Value.int x3), (4, Value.int x4), (5, Value.int x5)] [] := by
  intro n
  induction n with
  | zero => intro x2 x3 x4 x5 S h; exact h.elim
  | succ n ih =>
    intro x2 x3 x4 x5 S h
    refine V_iload (pc := 11) C dX7_isHallTaken_11 4 rfl ?_
    refine V_aload_n (pc := 13) C dX7_isHallTaken_13 rfl 0 rfl ?_
    refine V_getF (pc := 14) C hT f1_X7_3 g93 dX7_isHallTaken_14 ?_
    refine V_callV (pc := 17) C (ct_size hT hl h) g200 g201 g202 g203 g36 ⟨by decide, by decide, pl_Jx4a65c_size_8abf5⟩ (enc_ne63 (by decide)) (ct_obj hT rfl (by decide)) rfl ⟨by decide, by decide⟩ (rest := [Value.int x5]) rfl (le8 rfl) dX7_isHallTaken_17 (fun v2 S1 h => ?_) (fun k9 S9 hk h => VX_out C htab hk (h.2 (by omega)))
    replace h := h.1 rfl
    refine V_st (st' := [Value.int v2, Value.int x5]) rfl ?_
    refine V_icmp_ge (pc := 20) (tgt := 93) C dX7_isHallTaken_20 (by decide) h (fun h => ?_) (fun h => ?_)
    · refine V_iconst (pc := 93) C (v := 0) dX7_isHallTaken_93 rfl ?_
      exact V_zret (pc := 94) C hr (by decide) rfl h dX7_isHallTaken_94
    · refine V_aload_n (pc := 23) C dX7_isHallTaken_23 rfl 0 rfl ?_
      refine V_getF (pc := 24) C hT f1_X7_3 g93 dX7_isHallTaken_24 ?_
      refine V_iload (pc := 27) C dX7_isHallTaken_27 4 rfl ?_
      refine V_callV (pc := 29) C (ct_get hT hl (by decide) h) g332 g333 g334 g335 g36 ⟨by decide, by decide, pl_Jx4a65c_get_915e3⟩ (enc_ne63 (by decide)) (ct_obj hT rfl (by decide)) rfl ⟨by decide, by decide⟩ (rest := []) rfl (le8 rfl) dX7_isHallTaken_29 (fun v5 S4 h => ?_) (fun k9 S9 hk h => VX_out C htab hk (h.2 (by omega)))
      replace h := h.1 rfl
      refine V_st (st' := [Value.ref (enc 6 (nt v5))]) rfl ?_
      refine V_cast (pc := 32) C hT (by decide) rfl rfl g451 dX7_isHallTaken_32 ?_
      refine V_astore (pc := 35) C dX7_isHallTaken_35 (by decide) rfl ?_
      refine V_aload (pc := 37) C dX7_isHallTaken_37 0 rfl ?_
      refine V_getR (pc := 39) C hT f1_X5_2 (by decide) g503 dX7_isHallTaken_39 h (fun h => ?_)
      refine V_getI (pc := 42) C hT f1_X1_0 g227 dX7_isHallTaken_42 ?_
      refine V_aload_n (pc := 45) C dX7_isHallTaken_45 rfl 2 rfl ?_
      refine V_getI (pc := 46) C hT f1_X1_0 g227 dX7_isHallTaken_46 ?_
      refine V_icmp_ne (pc := 49) (tgt := 87) C dX7_isHallTaken_49 (by decide) h (fun h => ?_) (fun h => ?_)
      · refine V_sub [1, 2, 3, 4, 5] rfl ?_
        exact k_X7_isHallTaken_87 hT hl C hr hnm htab (fun h => ih h) h
      · refine V_aload (pc := 52) C dX7_isHallTaken_52 0 rfl ?_
        refine V_callV (pc := 54) C (ct_X5_isToCome hT hl h) g452 g453 g454 g455 g52 ⟨by decide, by decide, pl_X5_isToCome⟩ (enc_ne63 (by decide)) (ct_obj hT rfl (by decide)) rfl ⟨by decide, by decide⟩ (rest := []) rfl (le8 rfl) dX7_isHallTaken_54 (fun v8 S7 h => ?_) (fun k9 S9 hk h => VX_out C htab hk (h.2 (by omega)))
        replace h := h.1 rfl
        refine V_st (st' := [Value.int v8]) rfl ?_
        refine V_if_eq (pc := 57) (tgt := 87) C dX7_isHallTaken_57 (by decide) h (fun h => ?_) (fun h => ?_)
        · refine V_sub [1, 2, 3, 4, 5] rfl ?_
          exact k_X7_isHallTaken_87 hT hl C hr hnm htab (fun h => ih h) h
        · refine V_aload (pc := 60) C dX7_isHallTaken_60 0 rfl ?_
          refine V_callV (pc := 62) C (ct_X5_end hT hl h) g456 g457 g458 g459 g52 ⟨by decide, by decide, pl_X5_end⟩ (enc_ne63 (by decide)) (ct_obj hT rfl (by decide)) rfl ⟨by decide, by decide⟩ (rest := []) rfl (le8 rfl) dX7_isHallTaken_62 (fun v11 S10 h => ?_) (fun k9 S9 hk h => VX_out C htab hk (h.2 (by omega)))
          replace h := h.1 rfl
          refine V_st (st' := [Value.int v11]) rfl ?_
          refine V_bipush (pc := 65) C (v := 20) dX7_isHallTaken_65 rfl ?_
          refine V_iadd (pc := 67) C dX7_isHallTaken_67 ?_
          refine V_iload_n (pc := 68) C dX7_isHallTaken_68 rfl 3 rfl ?_
          refine V_icmp_le (pc := 69) (tgt := 87) C dX7_isHallTaken_69 (by decide) h (fun h => ?_) (fun h => ?_)
          · refine V_sub [1, 2, 3, 4, 5] rfl ?_
            exact k_X7_isHallTaken_87 hT hl C hr hnm htab (fun h => ih h) h
          · refine V_iload (pc := 72) C dX7_isHallTaken_72 4 rfl ?_
            refine V_bipush (pc := 74) C (v := 20) dX7_isHallTaken_74 rfl ?_
            refine V_iadd (pc := 76) C dX7_isHallTaken_76 ?_
            refine V_aload (pc := 77) C dX7_isHallTaken_77 0 rfl ?_
            refine V_getI (pc := 79) C hT f1_X5_3 g505 dX7_isHallTaken_79 ?_
            refine V_icmp_le (pc := 82) (tgt := 87) C dX7_isHallTaken_82 (by decide) h (fun h => ?_) (fun h => ?_)
            · refine V_sub [1, 2, 3, 4, 5] rfl ?_
              exact k_X7_isHallTaken_87 hT hl C hr hnm htab (fun h => ih h) h
            · refine V_iconst (pc := 85) C (v := 1) dX7_isHallTaken_85 rfl ?_
              exact V_zret (pc := 86) C hr (by decide) rfl h dX7_isHallTaken_86
def w_X7_isHallTaken (a1 : Int32) (a2 : Int32) (a3 : Int32) (S : Sg) (Q : Nat → Int32 → Sg → Prop) : Prop := (∀ v13, v13 = a3 + (S.1 31 (nt a1)) → ∃ n9, w_X7_isHallTaken_11  Q n9 a2 a3 v13 0 S)
theorem ct_X7_isHallTaken (hT : xT X = tb1) (hl : l.stackTraces = false) {a1 : Int32} {a2 : Int32} {a3 : Int32} {S : Sg} (h : w_X7_isHallTaken a1 a2 a3 S Qa) : CT X k0 l yX7_isHallTaken cX7_isHallTaken 7 (some .boolean) 4 81 [Value.ref (enc 0 0), Value.ref (enc 4 (nt a1)), Value.ref (enc 3 (nt a2)), Value.int a3] rvI S Qa :=
  CT_ofV (own := RX7) (by decide +kernel) (le8 rfl) rfl hl fun p e R s m args below meth c ad0 C hr hnm htab => by
    refine V_iload_n (pc := 0) C dX7_isHallTaken_0 rfl 3 rfl ?_
    refine V_aload_n (pc := 1) C dX7_isHallTaken_1 rfl 1 rfl ?_
    refine V_getI (pc := 2) C hT f1_X0_1 g362 dX7_isHallTaken_2 ?_
    refine V_iadd (pc := 5) C dX7_isHallTaken_5 ?_
    refine V_nI fun v13 e9 => ?_
    replace h := h v13 e9; clear e9
    refine V_istore (pc := 6) C dX7_isHallTaken_6 (by decide) rfl ?_
    refine V_iconst (pc := 8) C (v := 0) dX7_isHallTaken_8 rfl ?_
    refine V_istore (pc := 9) C dX7_isHallTaken_9 (by decide) rfl ?_
    refine V_sub [2, 4, 5, 1, 0] rfl ?_
    obtain ⟨n9, h⟩ := h
    exact k_X7_isHallTaken_11 hT hl C hr hnm htab  n9 h
theorem pl_X7_isTooCloseToOthers : (parseMethodDescriptor yX7_isTooCloseToOthers.desc).map (fun d => d.parameters.length) = some 2 := by decide +kernel
def w_X7_isTooCloseToOthers_68 (k2 : Int32 → Int32 → Int32 → Sg → Prop) (Q : Nat → Int32 → Sg → Prop) (x1 : Int32) (x2 : Int32) (x3 : Int32) (S : Sg) : Prop := k2 x1 x2 (x3 + 1) S
theorem k_X7_isTooCloseToOthers_68 (hT : xT X = tb1) (hl : l.stackTraces = false) (C : Cn X k0 p l R s m meth c cX7_isTooCloseToOthers RX7 5 4 81) (hr : meth.sig.returnType = (some .boolean)) (hnm : meth.name = yX7_isTooCloseToOthers.name) (htab : ∀ x ∈ c.exceptionTable.toList, False) {k2 : Int32 → Int32 → Int32 → Sg → Prop} (hk2 : ∀ {x1 : Int32} {x2 : Int32} {x3 : Int32} {S : Sg}, k2 x1 x2 x3 S → V X p l e R s m args below meth c 5 (QM X below args s S0 ad0 rvI Qa) S0 ad0 S 2 [(0, Value.ref (enc 0 0)), (1, Value.ref (enc 3 (nt x1))), (2, Value.int x2), (3, Value.int x3)] []) {x1 : Int32} {x2 : Int32} {x3 : Int32} {S : Sg} (h : w_X7_isTooCloseToOthers_68 k2 Qa x1 x2 x3 S) : V X p l e R s m args below meth c 5 (QM X below args s S0 ad0 rvI Qa) S0 ad0 S 68 [(0, Value.ref (enc 0 0)), (1, Value.ref (enc 3 (nt x1))), (2, Value.int x2), (3, Value.int x3)] [] := by
  refine V_iinc (pc := 68) C (a := 3) (v := x3 + 1) dX7_isTooCloseToOthers_68 rfl rfl (by decide) rfl ?_
  refine V_goto (pc := 71) (tgt := 2) C dX7_isTooCloseToOthers_71 (by decide) ?_
  refine V_sub [1, 2, 3, 0] rfl ?_
  exact hk2 h
def w_X7_isTooCloseToOthers_2  (Q : Nat → Int32 → Sg → Prop) : Nat → Int32 → Int32 → Int32 → Sg → Prop
  | 0, _, _, _, _ => False
  | n + 1, x1, x2, x3, S => (w_size 3 S (fun k3 v2 S1 => (k3 = 0 → ((v2 ≤ x3 → Q 0 0 S1) ∧ (¬ v2 ≤ x3 → (w_get 3 x3 S1 (fun k6 v5 S4 => (k6 = 0 → (¬ S4.1 52 (nt v5) < 0 ∧ (((S4.1 20 (nt (S4.1 52 (nt v5)))) = (S4.1 20 (nt x1)) → w_X7_isTooCloseToOthers_68 (fun x1 x2 x3 S => w_X7_isTooCloseToOthers_2  Q n x1 x2 x3 S) Q x1 x2 x3 S4) ∧ (¬ (S4.1 20 (nt (S4.1 52 (nt v5)))) = (S4.1 20 (nt x1)) → (w_X5_isToCome v5 S4 (fun k9 v8 S7 => (k9 = 0 → ((v8 = 0 → w_X7_isTooCloseToOthers_68 (fun x1 x2 x3 S => w_X7_isTooCloseToOthers_2  Q n x1 x2 x3 S) Q x1 x2 x3 S7) ∧ (¬ v8 = 0 → (w_J9_abs_0f7a4 ((S7.1 53 (nt v5)) - x2) S7 (fun k12 v11 S10 => (k12 = 0 → (((S10.1 7 0) ≤ v11 → w_X7_isTooCloseToOthers_68 (fun x1 x2 x3 S => w_X7_isTooCloseToOthers_2  Q n x1 x2 x3 S) Q x1 x2 x3 S10) ∧ (¬ (S10.1 7 0) ≤ v11 → Q 0 1 S10))) ∧ (¬ k12 = 0 → Q k12 0 S10)))))) ∧ (¬ k9 = 0 → Q k9 0 S7))))))) ∧ (¬ k6 = 0 → Q k6 0 S4)))))) ∧ (¬ k3 = 0 → Q k3 0 S1)))
theorem k_X7_isTooCloseToOthers_2 (hT : xT X = tb1) (hl : l.stackTraces = false) (C : Cn X k0 p l R s m meth c cX7_isTooCloseToOthers RX7 5 4 81) (hr : meth.sig.returnType = (some .boolean)) (hnm : meth.name = yX7_isTooCloseToOthers.name) (htab : ∀ x ∈ c.exceptionTable.toList, False)  : ∀ n {x1 : Int32} {x2 : Int32} {x3 : Int32} {S : Sg}, w_X7_isTooCloseToOthers_2  Qa n x1 x2 x3 S → V X p l e R s m args below meth c 5 (QM X below args s S0 ad0 rvI Qa) S0 ad0 S 2 [(0, Value.ref (enc 0 0)), (1, Value.ref (enc 3 (nt x1))), (2, Value.int x2), (3, Value.int x3)] [] := by
  intro n
  induction n with
  | zero => intro x1 x2 x3 S h; exact h.elim
  | succ n ih =>
    intro x1 x2 x3 S h
    refine V_iload_n (pc := 2) C dX7_isTooCloseToOthers_2 rfl 3 rfl ?_
    refine V_aload_n (pc := 3) C dX7_isTooCloseToOthers_3 rfl 0 rfl ?_
    refine V_getF (pc := 4) C hT f1_X7_3 g93 dX7_isTooCloseToOthers_4 ?_
    refine V_callV (pc := 7) C (ct_size hT hl h) g200 g201 g202 g203 g36 ⟨by decide, by decide, pl_Jx4a65c_size_8abf5⟩ (enc_ne63 (by decide)) (ct_obj hT rfl (by decide)) rfl ⟨by decide, by decide⟩ (rest := [Value.int x3]) rfl (le8 rfl) dX7_isTooCloseToOthers_7 (fun v2 S1 h => ?_) (fun k9 S9 hk h => VX_out C htab hk (h.2 (by omega)))
    replace h := h.1 rfl
    refine V_st (st' := [Value.int v2, Value.int x3]) rfl ?_
    refine V_icmp_ge (pc := 10) (tgt := 74) C dX7_isTooCloseToOthers_10 (by decide) h (fun h => ?_) (fun h => ?_)
    · refine V_iconst (pc := 74) C (v := 0) dX7_isTooCloseToOthers_74 rfl ?_
      exact V_zret (pc := 75) C hr (by decide) rfl h dX7_isTooCloseToOthers_75
    · refine V_aload_n (pc := 13) C dX7_isTooCloseToOthers_13 rfl 0 rfl ?_
      refine V_getF (pc := 14) C hT f1_X7_3 g93 dX7_isTooCloseToOthers_14 ?_
      refine V_iload_n (pc := 17) C dX7_isTooCloseToOthers_17 rfl 3 rfl ?_
      refine V_callV (pc := 18) C (ct_get hT hl (by decide) h) g332 g333 g334 g335 g36 ⟨by decide, by decide, pl_Jx4a65c_get_915e3⟩ (enc_ne63 (by decide)) (ct_obj hT rfl (by decide)) rfl ⟨by decide, by decide⟩ (rest := []) rfl (le8 rfl) dX7_isTooCloseToOthers_18 (fun v5 S4 h => ?_) (fun k9 S9 hk h => VX_out C htab hk (h.2 (by omega)))
      replace h := h.1 rfl
      refine V_st (st' := [Value.ref (enc 6 (nt v5))]) rfl ?_
      refine V_cast (pc := 21) C hT (by decide) rfl rfl g451 dX7_isTooCloseToOthers_21 ?_
      refine V_astore (pc := 24) C dX7_isTooCloseToOthers_24 (by decide) rfl ?_
      refine V_aload (pc := 26) C dX7_isTooCloseToOthers_26 0 rfl ?_
      refine V_getR (pc := 28) C hT f1_X5_2 (by decide) g503 dX7_isTooCloseToOthers_28 h (fun h => ?_)
      refine V_getI (pc := 31) C hT f1_X1_0 g227 dX7_isTooCloseToOthers_31 ?_
      refine V_aload_n (pc := 34) C dX7_isTooCloseToOthers_34 rfl 2 rfl ?_
      refine V_getI (pc := 35) C hT f1_X1_0 g227 dX7_isTooCloseToOthers_35 ?_
      refine V_icmp_eq (pc := 38) (tgt := 68) C dX7_isTooCloseToOthers_38 (by decide) h (fun h => ?_) (fun h => ?_)
      · refine V_sub [1, 2, 3, 4] rfl ?_
        exact k_X7_isTooCloseToOthers_68 hT hl C hr hnm htab (fun h => ih h) h
      · refine V_aload (pc := 41) C dX7_isTooCloseToOthers_41 0 rfl ?_
        refine V_callV (pc := 43) C (ct_X5_isToCome hT hl h) g452 g453 g454 g455 g52 ⟨by decide, by decide, pl_X5_isToCome⟩ (enc_ne63 (by decide)) (ct_obj hT rfl (by decide)) rfl ⟨by decide, by decide⟩ (rest := []) rfl (le8 rfl) dX7_isTooCloseToOthers_43 (fun v8 S7 h => ?_) (fun k9 S9 hk h => VX_out C htab hk (h.2 (by omega)))
        replace h := h.1 rfl
        refine V_st (st' := [Value.int v8]) rfl ?_
        refine V_if_eq (pc := 46) (tgt := 68) C dX7_isTooCloseToOthers_46 (by decide) h (fun h => ?_) (fun h => ?_)
        · refine V_sub [1, 2, 3, 4] rfl ?_
          exact k_X7_isTooCloseToOthers_68 hT hl C hr hnm htab (fun h => ih h) h
        · refine V_aload (pc := 49) C dX7_isTooCloseToOthers_49 0 rfl ?_
          refine V_getI (pc := 51) C hT f1_X5_3 g505 dX7_isTooCloseToOthers_51 ?_
          refine V_iload_n (pc := 54) C dX7_isTooCloseToOthers_54 rfl 3 rfl ?_
          refine V_isub (pc := 55) C dX7_isTooCloseToOthers_55 ?_
          refine V_callS (pc := 56) C (ct_J9_abs_0f7a4 hT hl h) g464 g465 g466 g44 ⟨by decide, by decide, pl_J9_abs_0f7a4⟩ ⟨by decide, by decide⟩ (rest := []) rfl (le8 rfl) dX7_isTooCloseToOthers_56 (fun v11 S10 h => ?_) (fun k9 S9 hk h => VX_out C htab hk (h.2 (by omega)))
          replace h := h.1 rfl
          refine V_st (st' := [Value.int v11]) rfl ?_
          refine V_aload_n (pc := 59) C dX7_isTooCloseToOthers_59 rfl 1 rfl ?_
          refine V_getI (pc := 60) C hT f1_X7_7 g97 dX7_isTooCloseToOthers_60 ?_
          refine V_icmp_ge (pc := 63) (tgt := 68) C dX7_isTooCloseToOthers_63 (by decide) h (fun h => ?_) (fun h => ?_)
          · refine V_sub [1, 2, 3, 4] rfl ?_
            exact k_X7_isTooCloseToOthers_68 hT hl C hr hnm htab (fun h => ih h) h
          · refine V_iconst (pc := 66) C (v := 1) dX7_isTooCloseToOthers_66 rfl ?_
            exact V_zret (pc := 67) C hr (by decide) rfl h dX7_isTooCloseToOthers_67
def w_X7_isTooCloseToOthers (a1 : Int32) (a2 : Int32) (S : Sg) (Q : Nat → Int32 → Sg → Prop) : Prop := ∃ n9, w_X7_isTooCloseToOthers_2  Q n9 a1 a2 0 S
theorem ct_X7_isTooCloseToOthers (hT : xT X = tb1) (hl : l.stackTraces = false) {a1 : Int32} {a2 : Int32} {S : Sg} (h : w_X7_isTooCloseToOthers a1 a2 S Qa) : CT X k0 l yX7_isTooCloseToOthers cX7_isTooCloseToOthers 5 (some .boolean) 4 81 [Value.ref (enc 0 0), Value.ref (enc 3 (nt a1)), Value.int a2] rvI S Qa :=
  CT_ofV (own := RX7) (by decide +kernel) (le8 rfl) rfl hl fun p e R s m args below meth c ad0 C hr hnm htab => by
    refine V_iconst (pc := 0) C (v := 0) dX7_isTooCloseToOthers_0 rfl ?_
    refine V_istore_n (pc := 1) C dX7_isTooCloseToOthers_1 rfl (by decide) rfl ?_
    refine V_sub [1, 2, 3, 0] rfl ?_
    obtain ⟨n9, h⟩ := h
    exact k_X7_isTooCloseToOthers_2 hT hl C hr hnm htab  n9 h
theorem pl_X7_isLampTooOld : (parseMethodDescriptor yX7_isLampTooOld.desc).map (fun d => d.parameters.length) = some 2 := by decide +kernel
def w_X7_isLampTooOld_73 (k13 : Int32 → Int32 → Int32 → Sg → Prop) (Q : Nat → Int32 → Sg → Prop) (x2 : Int32) (x3 : Int32) (x4 : Int32) (S : Sg) : Prop := k13 x2 x3 (x4 + 1) S
theorem k_X7_isLampTooOld_73 (hT : xT X = tb1) (hl : l.stackTraces = false) (C : Cn X k0 p l R s m meth c cX7_isLampTooOld RX7 6 4 81) (hr : meth.sig.returnType = (some .boolean)) (hnm : meth.name = yX7_isLampTooOld.name) (htab : ∀ x ∈ c.exceptionTable.toList, False) {k13 : Int32 → Int32 → Int32 → Sg → Prop} (hk13 : ∀ {x2 : Int32} {x3 : Int32} {x4 : Int32} {S : Sg}, k13 x2 x3 x4 S → V X p l e R s m args below meth c 6 (QM X below args s S0 ad0 rvI Qa) S0 ad0 S 13 [(0, Value.ref (enc 0 0)), (2, Value.ref (enc 3 (nt x2))), (3, Value.int x3), (4, Value.int x4)] []) {x2 : Int32} {x3 : Int32} {x4 : Int32} {S : Sg} (h : w_X7_isLampTooOld_73 k13 Qa x2 x3 x4 S) : V X p l e R s m args below meth c 6 (QM X below args s S0 ad0 rvI Qa) S0 ad0 S 73 [(0, Value.ref (enc 0 0)), (2, Value.ref (enc 3 (nt x2))), (3, Value.int x3), (4, Value.int x4)] [] := by
  refine V_iinc (pc := 73) C (a := 3) (v := x4 + 1) dX7_isLampTooOld_73 rfl rfl (by decide) rfl ?_
  refine V_goto (pc := 76) (tgt := 13) C dX7_isLampTooOld_76 (by decide) ?_
  refine V_sub [1, 2, 3, 0] rfl ?_
  exact hk13 h
def w_X7_isLampTooOld_13  (Q : Nat → Int32 → Sg → Prop) : Nat → Int32 → Int32 → Int32 → Sg → Prop
  | 0, _, _, _, _ => False
  | n + 1, x2, x3, x4, S => (w_size 3 S (fun k3 v2 S1 => (k3 = 0 → ((v2 ≤ x4 → ((x3 ≤ (S1.1 24 (nt x2)) → Q 0 0 S1) ∧ (¬ x3 ≤ (S1.1 24 (nt x2)) → Q 0 1 S1))) ∧ (¬ v2 ≤ x4 → (w_get 3 x4 S1 (fun k6 v5 S4 => (k6 = 0 → (¬ S4.1 52 (nt v5) < 0 ∧ (((S4.1 20 (nt (S4.1 52 (nt v5)))) = (S4.1 20 (nt x2)) → (w_X5_isToCome v5 S4 (fun k9 v8 S7 => (k9 = 0 → ((v8 = 0 → w_X7_isLampTooOld_73 (fun x2 x3 x4 S => w_X7_isLampTooOld_13  Q n x2 x3 x4 S) Q x2 x3 x4 S7) ∧ (¬ v8 = 0 → (¬ S7.1 51 (nt v5) < 0 ∧ (∀ v10, v10 = x3 + (S7.1 31 (nt (S7.1 51 (nt v5)))) → w_X7_isLampTooOld_73 (fun x2 x3 x4 S => w_X7_isLampTooOld_13  Q n x2 x3 x4 S) Q x2 v10 x4 S7))))) ∧ (¬ k9 = 0 → Q k9 0 S7)))) ∧ (¬ (S4.1 20 (nt (S4.1 52 (nt v5)))) = (S4.1 20 (nt x2)) → w_X7_isLampTooOld_73 (fun x2 x3 x4 S => w_X7_isLampTooOld_13  Q n x2 x3 x4 S) Q x2 x3 x4 S4)))) ∧ (¬ k6 = 0 → Q k6 0 S4)))))) ∧ (¬ k3 = 0 → Q k3 0 S1)))
theorem k_X7_isLampTooOld_13 (hT : xT X = tb1) (hl : l.stackTraces = false) (C : Cn X k0 p l R s m meth c cX7_isLampTooOld RX7 6 4 81) (hr : meth.sig.returnType = (some .boolean)) (hnm : meth.name = yX7_isLampTooOld.name) (htab : ∀ x ∈ c.exceptionTable.toList, False)  : ∀ n {x2 : Int32} {x3 : Int32} {x4 : Int32} {S : Sg}, w_X7_isLampTooOld_13  Qa n x2 x3 x4 S → V X p l e R s m args below meth c 6 (QM X below args s S0 ad0 rvI Qa) S0 ad0 S 13 [(0, Value.ref (enc 0 0)), (2, Value.ref (enc 3 (nt x2))), (3, Value.int x3), (4, Value.int x4)] [] := by
  intro n
  induction n with
  | zero => intro x2 x3 x4 S h; exact h.elim
  | succ n ih =>
    intro x2 x3 x4 S h
    refine V_iload (pc := 13) C dX7_isLampTooOld_13 3 rfl ?_
    refine V_aload_n (pc := 15) C dX7_isLampTooOld_15 rfl 0 rfl ?_
    refine V_getF (pc := 16) C hT f1_X7_3 g93 dX7_isLampTooOld_16 ?_
    refine V_callV (pc := 19) C (ct_size hT hl h) g200 g201 g202 g203 g36 ⟨by decide, by decide, pl_Jx4a65c_size_8abf5⟩ (enc_ne63 (by decide)) (ct_obj hT rfl (by decide)) rfl ⟨by decide, by decide⟩ (rest := [Value.int x4]) rfl (le8 rfl) dX7_isLampTooOld_19 (fun v2 S1 h => ?_) (fun k9 S9 hk h => VX_out C htab hk (h.2 (by omega)))
    replace h := h.1 rfl
    refine V_st (st' := [Value.int v2, Value.int x4]) rfl ?_
    refine V_icmp_ge (pc := 22) (tgt := 79) C dX7_isLampTooOld_22 (by decide) h (fun h => ?_) (fun h => ?_)
    · refine V_iload_n (pc := 79) C dX7_isLampTooOld_79 rfl 2 rfl ?_
      refine V_aload_n (pc := 80) C dX7_isLampTooOld_80 rfl 1 rfl ?_
      refine V_getI (pc := 81) C hT f1_X1_4 g237 dX7_isLampTooOld_81 ?_
      refine V_icmp_le (pc := 84) (tgt := 91) C dX7_isLampTooOld_84 (by decide) h (fun h => ?_) (fun h => ?_)
      · refine V_iconst (pc := 91) C (v := 0) dX7_isLampTooOld_91 rfl ?_
        exact V_zret (pc := 92) C hr (by decide) rfl h dX7_isLampTooOld_92
      · refine V_iconst (pc := 87) C (v := 1) dX7_isLampTooOld_87 rfl ?_
        refine V_goto (pc := 88) (tgt := 92) C dX7_isLampTooOld_88 (by decide) ?_
        exact V_zret (pc := 92) C hr (by decide) rfl h dX7_isLampTooOld_92
    · refine V_aload_n (pc := 25) C dX7_isLampTooOld_25 rfl 0 rfl ?_
      refine V_getF (pc := 26) C hT f1_X7_3 g93 dX7_isLampTooOld_26 ?_
      refine V_iload (pc := 29) C dX7_isLampTooOld_29 3 rfl ?_
      refine V_callV (pc := 31) C (ct_get hT hl (by decide) h) g332 g333 g334 g335 g36 ⟨by decide, by decide, pl_Jx4a65c_get_915e3⟩ (enc_ne63 (by decide)) (ct_obj hT rfl (by decide)) rfl ⟨by decide, by decide⟩ (rest := []) rfl (le8 rfl) dX7_isLampTooOld_31 (fun v5 S4 h => ?_) (fun k9 S9 hk h => VX_out C htab hk (h.2 (by omega)))
      replace h := h.1 rfl
      refine V_st (st' := [Value.ref (enc 6 (nt v5))]) rfl ?_
      refine V_cast (pc := 34) C hT (by decide) rfl rfl g451 dX7_isLampTooOld_34 ?_
      refine V_astore (pc := 37) C dX7_isLampTooOld_37 (by decide) rfl ?_
      refine V_aload (pc := 39) C dX7_isLampTooOld_39 0 rfl ?_
      refine V_getR (pc := 41) C hT f1_X5_2 (by decide) g503 dX7_isLampTooOld_41 h (fun h => ?_)
      refine V_getI (pc := 44) C hT f1_X1_0 g227 dX7_isLampTooOld_44 ?_
      refine V_aload_n (pc := 47) C dX7_isLampTooOld_47 rfl 2 rfl ?_
      refine V_getI (pc := 48) C hT f1_X1_0 g227 dX7_isLampTooOld_48 ?_
      refine V_icmp_ne (pc := 51) (tgt := 73) C dX7_isLampTooOld_51 (by decide) h (fun h => ?_) (fun h => ?_)
      · refine V_sub [1, 2, 3, 4] rfl ?_
        exact k_X7_isLampTooOld_73 hT hl C hr hnm htab (fun h => ih h) h
      · refine V_aload (pc := 54) C dX7_isLampTooOld_54 0 rfl ?_
        refine V_callV (pc := 56) C (ct_X5_isToCome hT hl h) g452 g453 g454 g455 g52 ⟨by decide, by decide, pl_X5_isToCome⟩ (enc_ne63 (by decide)) (ct_obj hT rfl (by decide)) rfl ⟨by decide, by decide⟩ (rest := []) rfl (le8 rfl) dX7_isLampTooOld_56 (fun v8 S7 h => ?_) (fun k9 S9 hk h => VX_out C htab hk (h.2 (by omega)))
        replace h := h.1 rfl
        refine V_st (st' := [Value.int v8]) rfl ?_
        refine V_if_eq (pc := 59) (tgt := 73) C dX7_isLampTooOld_59 (by decide) h (fun h => ?_) (fun h => ?_)
        · refine V_sub [1, 2, 3, 4] rfl ?_
          exact k_X7_isLampTooOld_73 hT hl C hr hnm htab (fun h => ih h) h
        · refine V_iload_n (pc := 62) C dX7_isLampTooOld_62 rfl 3 rfl ?_
          refine V_aload (pc := 63) C dX7_isLampTooOld_63 0 rfl ?_
          refine V_getR (pc := 65) C hT f1_X5_1 (by decide) g501 dX7_isLampTooOld_65 h (fun h => ?_)
          refine V_getI (pc := 68) C hT f1_X0_1 g362 dX7_isLampTooOld_68 ?_
          refine V_iadd (pc := 71) C dX7_isLampTooOld_71 ?_
          refine V_nI fun v10 e9 => ?_
          replace h := h v10 e9; clear e9
          refine V_istore_n (pc := 72) C dX7_isLampTooOld_72 rfl (by decide) rfl ?_
          refine V_sub [2, 3, 0, 4] rfl ?_
          exact k_X7_isLampTooOld_73 hT hl C hr hnm htab (fun h => ih h) h
def w_X7_isLampTooOld (a1 : Int32) (a2 : Int32) (S : Sg) (Q : Nat → Int32 → Sg → Prop) : Prop := (∀ v11, v11 = (S.1 23 (nt a2)) + (S.1 31 (nt a1)) → ∃ n9, w_X7_isLampTooOld_13  Q n9 a2 v11 0 S)
theorem ct_X7_isLampTooOld (hT : xT X = tb1) (hl : l.stackTraces = false) {a1 : Int32} {a2 : Int32} {S : Sg} (h : w_X7_isLampTooOld a1 a2 S Qa) : CT X k0 l yX7_isLampTooOld cX7_isLampTooOld 6 (some .boolean) 4 81 [Value.ref (enc 0 0), Value.ref (enc 4 (nt a1)), Value.ref (enc 3 (nt a2))] rvI S Qa :=
  CT_ofV (own := RX7) (by decide +kernel) (le8 rfl) rfl hl fun p e R s m args below meth c ad0 C hr hnm htab => by
    refine V_aload_n (pc := 0) C dX7_isLampTooOld_0 rfl 2 rfl ?_
    refine V_getI (pc := 1) C hT f1_X1_3 g235 dX7_isLampTooOld_1 ?_
    refine V_aload_n (pc := 4) C dX7_isLampTooOld_4 rfl 1 rfl ?_
    refine V_getI (pc := 5) C hT f1_X0_1 g362 dX7_isLampTooOld_5 ?_
    refine V_iadd (pc := 8) C dX7_isLampTooOld_8 ?_
    refine V_nI fun v11 e9 => ?_
    replace h := h v11 e9; clear e9
    refine V_istore_n (pc := 9) C dX7_isLampTooOld_9 rfl (by decide) rfl ?_
    refine V_iconst (pc := 10) C (v := 0) dX7_isLampTooOld_10 rfl ?_
    refine V_istore (pc := 11) C dX7_isLampTooOld_11 (by decide) rfl ?_
    refine V_sub [2, 4, 1, 0] rfl ?_
    obtain ⟨n9, h⟩ := h
    exact k_X7_isLampTooOld_13 hT hl C hr hnm htab  n9 h
theorem pl_X7_reasonAgainst : (parseMethodDescriptor yX7_reasonAgainst.desc).map (fun d => d.parameters.length) = some 3 := by decide +kernel
def w_X7_reasonAgainst (a1 : Int32) (a2 : Int32) (a3 : Int32) (S : Sg) (Q : Nat → Int32 → Sg → Prop) : Prop := (w_X7_isOpen a1 a2 a3 S (fun k3 v2 S1 => (k3 = 0 → ((v2 = 0 → Q 0 1 S1) ∧ (¬ v2 = 0 → (w_X7_isHallTaken a1 a2 a3 S1 (fun k6 v5 S4 => (k6 = 0 → ((v5 = 0 → (w_X7_isTooCloseToOthers a2 a3 S4 (fun k9 v8 S7 => (k9 = 0 → ((v8 = 0 → (w_X7_isLampTooOld a1 a2 S7 (fun k12 v11 S10 => (k12 = 0 → ((v11 = 0 → Q 0 0 S10) ∧ (¬ v11 = 0 → Q 0 4 S10))) ∧ (¬ k12 = 0 → Q k12 0 S10)))) ∧ (¬ v8 = 0 → Q 0 3 S7))) ∧ (¬ k9 = 0 → Q k9 0 S7)))) ∧ (¬ v5 = 0 → Q 0 2 S4))) ∧ (¬ k6 = 0 → Q k6 0 S4)))))) ∧ (¬ k3 = 0 → Q k3 0 S1)))
theorem ct_X7_reasonAgainst (hT : xT X = tb1) (hl : l.stackTraces = false) {a1 : Int32} {a2 : Int32} {a3 : Int32} {S : Sg} (h : w_X7_reasonAgainst a1 a2 a3 S Qa) : CT X k0 l yX7_reasonAgainst cX7_reasonAgainst 4 (some .int) 5 107 [Value.ref (enc 0 0), Value.ref (enc 4 (nt a1)), Value.ref (enc 3 (nt a2)), Value.int a3] rvI S Qa :=
  CT_ofV (own := RX7) (by decide +kernel) (le8 rfl) rfl hl fun p e R s m args below meth c ad0 C hr hnm htab => by
    refine V_aload_n (pc := 0) C dX7_reasonAgainst_0 rfl 0 rfl ?_
    refine V_aload_n (pc := 1) C dX7_reasonAgainst_1 rfl 1 rfl ?_
    refine V_aload_n (pc := 2) C dX7_reasonAgainst_2 rfl 2 rfl ?_
    refine V_iload_n (pc := 3) C dX7_reasonAgainst_3 rfl 3 rfl ?_
    refine V_callV (pc := 4) C (ct_X7_isOpen hT hl h) g443 g445 g7 g446 g33 ⟨by decide, by decide, pl_X7_isOpen⟩ (enc_ne63 (by decide)) (ct_obj hT rfl (by decide)) rfl ⟨by decide, by decide⟩ (rest := []) rfl (le8 rfl) dX7_reasonAgainst_4 (fun v2 S1 h => ?_) (fun k9 S9 hk h => VX_out C htab hk (h.2 (by omega)))
    replace h := h.1 rfl
    refine V_st (st' := [Value.int v2]) rfl ?_
    refine V_if_ne (pc := 7) (tgt := 12) C dX7_reasonAgainst_7 (by decide) h (fun h => ?_) (fun h => ?_)
    · refine V_aload_n (pc := 12) C dX7_reasonAgainst_12 rfl 0 rfl ?_
      refine V_aload_n (pc := 13) C dX7_reasonAgainst_13 rfl 1 rfl ?_
      refine V_aload_n (pc := 14) C dX7_reasonAgainst_14 rfl 2 rfl ?_
      refine V_iload_n (pc := 15) C dX7_reasonAgainst_15 rfl 3 rfl ?_
      refine V_callV (pc := 16) C (ct_X7_isHallTaken hT hl h) g447 g449 g8 g450 g33 ⟨by decide, by decide, pl_X7_isHallTaken⟩ (enc_ne63 (by decide)) (ct_obj hT rfl (by decide)) rfl ⟨by decide, by decide⟩ (rest := []) rfl (le8 rfl) dX7_reasonAgainst_16 (fun v5 S4 h => ?_) (fun k9 S9 hk h => VX_out C htab hk (h.2 (by omega)))
      replace h := h.1 rfl
      refine V_st (st' := [Value.int v5]) rfl ?_
      refine V_if_eq (pc := 19) (tgt := 24) C dX7_reasonAgainst_19 (by decide) h (fun h => ?_) (fun h => ?_)
      · refine V_aload_n (pc := 24) C dX7_reasonAgainst_24 rfl 0 rfl ?_
        refine V_aload_n (pc := 25) C dX7_reasonAgainst_25 rfl 2 rfl ?_
        refine V_iload_n (pc := 26) C dX7_reasonAgainst_26 rfl 3 rfl ?_
        refine V_callV (pc := 27) C (ct_X7_isTooCloseToOthers hT hl h) g460 g462 g9 g463 g33 ⟨by decide, by decide, pl_X7_isTooCloseToOthers⟩ (enc_ne63 (by decide)) (ct_obj hT rfl (by decide)) rfl ⟨by decide, by decide⟩ (rest := []) rfl (le8 rfl) dX7_reasonAgainst_27 (fun v8 S7 h => ?_) (fun k9 S9 hk h => VX_out C htab hk (h.2 (by omega)))
        replace h := h.1 rfl
        refine V_st (st' := [Value.int v8]) rfl ?_
        refine V_if_eq (pc := 30) (tgt := 35) C dX7_reasonAgainst_30 (by decide) h (fun h => ?_) (fun h => ?_)
        · refine V_aload_n (pc := 35) C dX7_reasonAgainst_35 rfl 0 rfl ?_
          refine V_aload_n (pc := 36) C dX7_reasonAgainst_36 rfl 1 rfl ?_
          refine V_aload_n (pc := 37) C dX7_reasonAgainst_37 rfl 2 rfl ?_
          refine V_callV (pc := 38) C (ct_X7_isLampTooOld hT hl h) g467 g469 g10 g470 g33 ⟨by decide, by decide, pl_X7_isLampTooOld⟩ (enc_ne63 (by decide)) (ct_obj hT rfl (by decide)) rfl ⟨by decide, by decide⟩ (rest := []) rfl (le8 rfl) dX7_reasonAgainst_38 (fun v11 S10 h => ?_) (fun k9 S9 hk h => VX_out C htab hk (h.2 (by omega)))
          replace h := h.1 rfl
          refine V_st (st' := [Value.int v11]) rfl ?_
          refine V_if_eq (pc := 41) (tgt := 48) C dX7_reasonAgainst_41 (by decide) h (fun h => ?_) (fun h => ?_)
          · refine V_iconst (pc := 48) C (v := 0) dX7_reasonAgainst_48 rfl ?_
            exact V_iret (pc := 49) C hr rfl h dX7_reasonAgainst_49
          · refine V_iconst (pc := 44) C (v := 4) dX7_reasonAgainst_44 rfl ?_
            refine V_goto (pc := 45) (tgt := 49) C dX7_reasonAgainst_45 (by decide) ?_
            exact V_iret (pc := 49) C hr rfl h dX7_reasonAgainst_49
        · refine V_iconst (pc := 33) C (v := 3) dX7_reasonAgainst_33 rfl ?_
          exact V_iret (pc := 34) C hr rfl h dX7_reasonAgainst_34
      · refine V_iconst (pc := 22) C (v := 2) dX7_reasonAgainst_22 rfl ?_
        exact V_iret (pc := 23) C hr rfl h dX7_reasonAgainst_23
    · refine V_iconst (pc := 10) C (v := 1) dX7_reasonAgainst_10 rfl ?_
      exact V_iret (pc := 11) C hr rfl h dX7_reasonAgainst_11
theorem pl_X7_show : (parseMethodDescriptor yX7_show.desc).map (fun d => d.parameters.length) = some 3 := by decide +kernel
def w_X7_show (a1 : Int32) (a2 : Int32) (a3 : Int32) (S : Sg) (Q : Nat → Int32 → Sg → Prop) : Prop := (w_X7_filmAt a1 S (fun k3 v2 S1 => (k3 = 0 → (w_X7_hallAt a2 S1 (fun k6 v5 S4 => (k6 = 0 → (w_X7_needWithin a3 ((S4.1 6 0) + 1) 100000 S4 (fun k9 v8 S7 => (k9 = 0 → (w_size 3 S7 (fun k12 v11 S10 => (k12 = 0 → ((v11 < 30 → (w_X7_reasonAgainst v2 v5 a3 S10 (fun k15 v14 S13 => (k15 = 0 → ((v14 = 0 → ((S13.2.1 + 1 ≤ nB1 ∧ S13.2.2 + 8 ≤ nB2) ∧ (∀ v17, v17 = S13.1 10 6 → ∀ S16, S16 = nu S13 6 8 fdShow → (w_size 3 S16 (fun k20 v19 S18 => (k20 = 0 → (w_X5_init v17 v19 v2 v5 a3 S18 (fun k23 v22 S21 => (k23 = 0 → (w_add 3 v17 S21 (fun k26 v25 S24 => (k26 = 0 → (w_size 3 S24 (fun k29 v28 S27 => (k29 = 0 → Q 0 (v28 - 1) S27) ∧ (¬ k29 = 0 → Q k29 0 S27)))) ∧ (¬ k26 = 0 → Q k26 0 S24)))) ∧ (¬ k23 = 0 → Q k23 0 S21)))) ∧ (¬ k20 = 0 → Q k20 0 S18)))))) ∧ (¬ v14 = 0 → (S13.2.1 + 1 ≤ nB1 ∧ S13.2.2 + 6 ≤ nB2 ∧ Q 2 0 (tS S13))))) ∧ (¬ k15 = 0 → Q k15 0 S13)))) ∧ (¬ v11 < 30 → (S10.2.1 + 1 ≤ nB1 ∧ S10.2.2 + 6 ≤ nB2 ∧ Q 2 0 (tS S10))))) ∧ (¬ k12 = 0 → Q k12 0 S10)))) ∧ (¬ k9 = 0 → Q k9 0 S7)))) ∧ (¬ k6 = 0 → Q k6 0 S4)))) ∧ (¬ k3 = 0 → Q k3 0 S1)))
theorem ct_X7_show (hT : xT X = tb1) (hl : l.stackTraces = false) {a1 : Int32} {a2 : Int32} {a3 : Int32} {S : Sg} (h : w_X7_show a1 a2 a3 S Qa) : CT X k0 l yX7_show cX7_show 6 (some .int) 8 181 [Value.ref (enc 0 0), Value.int a1, Value.int a2, Value.int a3] rvI S Qa :=
  CT_ofV (own := RX7) (by decide +kernel) (le8 rfl) rfl hl fun p e R s m args below meth c ad0 C hr hnm htab => by
    refine V_aload_n (pc := 0) C dX7_show_0 rfl 0 rfl ?_
    refine V_iload_n (pc := 1) C dX7_show_1 rfl 1 rfl ?_
    refine V_callV (pc := 2) C (ct_X7_filmAt hT hl h) g400 g402 g5 g403 g33 ⟨by decide, by decide, pl_X7_filmAt⟩ (enc_ne63 (by decide)) (ct_obj hT rfl (by decide)) rfl ⟨by decide, by decide⟩ (rest := []) rfl (le8 rfl) dX7_show_2 (fun v2 S1 h => ?_) (fun k9 S9 hk h => VX_out C htab hk (h.2 (by omega)))
    replace h := h.1 rfl
    refine V_st (st' := [Value.ref (enc 4 (nt v2))]) rfl ?_
    refine V_astore (pc := 5) C dX7_show_5 (by decide) rfl ?_
    refine V_aload_n (pc := 7) C dX7_show_7 rfl 1 rfl ?_
    refine V_iload_n (pc := 8) C dX7_show_8 rfl 3 rfl ?_
    refine V_callV (pc := 9) C (ct_X7_hallAt hT hl h) g312 g314 g4 g315 g33 ⟨by decide, by decide, pl_X7_hallAt⟩ (enc_ne63 (by decide)) (ct_obj hT rfl (by decide)) rfl ⟨by decide, by decide⟩ (rest := []) rfl (le8 rfl) dX7_show_9 (fun v5 S4 h => ?_) (fun k9 S9 hk h => VX_out C htab hk (h.2 (by omega)))
    replace h := h.1 rfl
    refine V_st (st' := [Value.ref (enc 3 (nt v5))]) rfl ?_
    refine V_astore (pc := 12) C dX7_show_12 (by decide) rfl ?_
    refine V_iload_n (pc := 14) C dX7_show_14 rfl 5 rfl ?_
    refine V_aload_n (pc := 15) C dX7_show_15 rfl 2 rfl ?_
    refine V_getI (pc := 16) C hT f1_X7_6 g96 dX7_show_16 ?_
    refine V_iconst (pc := 19) C (v := 1) dX7_show_19 rfl ?_
    refine V_iadd (pc := 20) C dX7_show_20 ?_
    refine V_ldc (pc := 21) C g346 dX7_show_21 ?_
    refine V_callS (pc := 23) C (ct_X7_needWithin hT hl h) g129 g130 g131 g33 ⟨by decide, by decide, pl_X7_needWithin⟩ ⟨by decide, by decide⟩ (rest := []) rfl (le8 rfl) dX7_show_23 (fun v8 S7 h => ?_) (fun k9 S9 hk h => VX_out C htab hk (h.2 (by omega)))
    replace h := h.1 rfl
    refine V_st (st' := []) rfl ?_
    refine V_aload_n (pc := 26) C dX7_show_26 rfl 2 rfl ?_
    refine V_getF (pc := 27) C hT f1_X7_3 g93 dX7_show_27 ?_
    refine V_callV (pc := 30) C (ct_size hT hl h) g200 g201 g202 g203 g36 ⟨by decide, by decide, pl_Jx4a65c_size_8abf5⟩ (enc_ne63 (by decide)) (ct_obj hT rfl (by decide)) rfl ⟨by decide, by decide⟩ (rest := []) rfl (le8 rfl) dX7_show_30 (fun v11 S10 h => ?_) (fun k9 S9 hk h => VX_out C htab hk (h.2 (by omega)))
    replace h := h.1 rfl
    refine V_st (st' := [Value.int v11]) rfl ?_
    refine V_bipush (pc := 33) C (v := 30) dX7_show_33 rfl ?_
    refine V_icmp_lt (pc := 35) (tgt := 48) C dX7_show_35 (by decide) h (fun h => ?_) (fun h => ?_)
    · refine V_aload_n (pc := 48) C dX7_show_48 rfl 2 rfl ?_
      refine V_aload (pc := 49) C dX7_show_49 1 rfl ?_
      refine V_aload (pc := 51) C dX7_show_51 0 rfl ?_
      refine V_iload_n (pc := 53) C dX7_show_53 rfl 5 rfl ?_
      refine V_callV (pc := 54) C (ct_X7_reasonAgainst hT hl h) g439 g441 g6 g442 g33 ⟨by decide, by decide, pl_X7_reasonAgainst⟩ (enc_ne63 (by decide)) (ct_obj hT rfl (by decide)) rfl ⟨by decide, by decide⟩ (rest := []) rfl (le8 rfl) dX7_show_54 (fun v14 S13 h => ?_) (fun k9 S9 hk h => VX_out C htab hk (h.2 (by omega)))
      replace h := h.1 rfl
      refine V_st (st' := [Value.int v14]) rfl ?_
      refine V_if_eq (pc := 57) (tgt := 70) C dX7_show_57 (by decide) h (fun h => ?_) (fun h => ?_)
      · refine V_aload_n (pc := 70) C dX7_show_70 rfl 2 rfl ?_
        refine V_getF (pc := 71) C hT f1_X7_3 g93 dX7_show_71 ?_
        refine V_newO (pc := 74) (k := 6) (fds := fdShow) C hT tb1_g CF_X5 rfl (by decide) (by decide +kernel) (by decide +kernel) rfl g451 g472 g52 dX7_show_74 h (fun h => V_nR fun v17 e8 => V_nx fun S16 e9 => ?_)
        replace h := h v17 e8 S16 e9; clear e8 e9
        refine V_dup (pc := 77) C dX7_show_77 rfl ?_
        refine V_aload_n (pc := 78) C dX7_show_78 rfl 2 rfl ?_
        refine V_getF (pc := 79) C hT f1_X7_3 g93 dX7_show_79 ?_
        refine V_callV (pc := 82) C (ct_size hT hl h) g200 g201 g202 g203 g36 ⟨by decide, by decide, pl_Jx4a65c_size_8abf5⟩ (enc_ne63 (by decide)) (ct_obj hT rfl (by decide)) rfl ⟨by decide, by decide⟩ (rest := [Value.ref (enc 6 (nt v17)), Value.ref (enc 6 (nt v17)), Value.ref (enc 1 3)]) rfl (le8 rfl) dX7_show_82 (fun v19 S18 h => ?_) (fun k9 S9 hk h => VX_out C htab hk (h.2 (by omega)))
        replace h := h.1 rfl
        refine V_st (st' := [Value.int v19, Value.ref (enc 6 (nt v17)), Value.ref (enc 6 (nt v17)), Value.ref (enc 1 3)]) rfl ?_
        refine V_aload (pc := 85) C dX7_show_85 1 rfl ?_
        refine V_aload (pc := 87) C dX7_show_87 0 rfl ?_
        refine V_iload_n (pc := 89) C dX7_show_89 rfl 5 rfl ?_
        refine V_callI (pc := 90) C (ct_X5_init hT hl h) g473 g474 g475 g52 rfl ⟨by decide, by decide, pl_X5_init⟩ ⟨by decide, by decide⟩ (rest := [Value.ref (enc 6 (nt v17)), Value.ref (enc 1 3)]) rfl (le8 rfl) dX7_show_90 (fun v22 S21 h => ?_) (fun k9 S9 hk h => VX_out C htab hk (h.2 (by omega)))
        replace h := h.1 rfl
        refine V_st (st' := [Value.ref (enc 6 (nt v17)), Value.ref (enc 1 3)]) rfl ?_
        refine V_callV (pc := 93) C (ct_add hT hl (by decide) h) g249 g250 g251 g252 g36 ⟨by decide, by decide, pl_Jx4a65c_add_9ea2d⟩ (enc_ne63 (by decide)) (ct_obj hT rfl (by decide)) rfl ⟨by decide, by decide⟩ (rest := []) rfl (le8 rfl) dX7_show_93 (fun v25 S24 h => ?_) (fun k9 S9 hk h => VX_out C htab hk (h.2 (by omega)))
        replace h := h.1 rfl
        refine V_st (st' := [Value.int v25]) rfl ?_
        refine V_pop (pc := 96) C dX7_show_96 rfl ?_
        refine V_aload_n (pc := 97) C dX7_show_97 rfl 2 rfl ?_
        refine V_getF (pc := 98) C hT f1_X7_3 g93 dX7_show_98 ?_
        refine V_callV (pc := 101) C (ct_size hT hl h) g200 g201 g202 g203 g36 ⟨by decide, by decide, pl_Jx4a65c_size_8abf5⟩ (enc_ne63 (by decide)) (ct_obj hT rfl (by decide)) rfl ⟨by decide, by decide⟩ (rest := []) rfl (le8 rfl) dX7_show_101 (fun v28 S27 h => ?_) (fun k9 S9 hk h => VX_out C htab hk (h.2 (by omega)))
        replace h := h.1 rfl
        refine V_st (st' := [Value.int v28]) rfl ?_
        refine V_iconst (pc := 104) C (v := 1) dX7_show_104 rfl ?_
        refine V_isub (pc := 105) C dX7_show_105 ?_
        exact V_iret (pc := 106) C hr rfl h dX7_show_106
      · exact V_throw (pc := 60) C htab (k9 := 2) (by decide) at_RX7_2 str_RX7_114 ⟨by decide, le8 rfl⟩ dX7_show_60 dX7_show_63 dX7_show_64 dX7_show_66 dX7_show_69 h
    · exact V_throw (pc := 38) C htab (k9 := 2) (by decide) at_RX7_2 str_RX7_108 ⟨by decide, le8 rfl⟩ dX7_show_38 dX7_show_41 dX7_show_42 dX7_show_44 dX7_show_47 h
theorem pl_X7_showAt : (parseMethodDescriptor yX7_showAt.desc).map (fun d => d.parameters.length) = some 1 := by decide +kernel
def w_X7_showAt_15  (Q : Nat → Int32 → Sg → Prop)  (S : Sg) : Prop := (S.2.1 + 1 ≤ nB1 ∧ S.2.2 + 6 ≤ nB2 ∧ Q 3 0 (tS S))
theorem k_X7_showAt_15 (hT : xT X = tb1) (hl : l.stackTraces = false) (C : Cn X k0 p l R s m meth c cX7_showAt RX7 2 6 82) (hr : meth.sig.returnType = (some (.object "Platterhouse$Show"))) (hnm : meth.name = yX7_showAt.name) (htab : ∀ x ∈ c.exceptionTable.toList, False)   {S : Sg} (h : w_X7_showAt_15  Qa  S) : V X p l e R s m args below meth c 2 (QM X below args s S0 ad0 (rvR 6) Qa) S0 ad0 S 15 [] [] := by
  exact V_throwW (pc := 15) C htab (k9 := 3) (by decide) at_RX7_3 str_RX7_362 ⟨by decide, le8 rfl⟩ dX7_showAt_15 dX7_showAt_18 dX7_showAt_19 dX7_showAt_22 dX7_showAt_25 h
def w_X7_showAt (a1 : Int32) (S : Sg) (Q : Nat → Int32 → Sg → Prop) : Prop := ((a1 < 0 → w_X7_showAt_15  Q  S) ∧ (¬ a1 < 0 → (w_size 3 S (fun k3 v2 S1 => (k3 = 0 → ((a1 < v2 → (w_get 3 a1 S1 (fun k6 v5 S4 => (k6 = 0 → Q 0 v5 S4) ∧ (¬ k6 = 0 → Q k6 0 S4)))) ∧ (¬ a1 < v2 → w_X7_showAt_15  Q  S1))) ∧ (¬ k3 = 0 → Q k3 0 S1)))))
theorem ct_X7_showAt (hT : xT X = tb1) (hl : l.stackTraces = false) {a1 : Int32} {S : Sg} (h : w_X7_showAt a1 S Qa) : CT X k0 l yX7_showAt cX7_showAt 2 (some (.object "Platterhouse$Show")) 6 82 [Value.ref (enc 0 0), Value.int a1] (rvR 6) S Qa :=
  CT_ofV (own := RX7) (by decide +kernel) (le8 rfl) rfl hl fun p e R s m args below meth c ad0 C hr hnm htab => by
    refine V_iload_n (pc := 0) C dX7_showAt_0 rfl 1 rfl ?_
    refine V_if_lt (pc := 1) (tgt := 15) C dX7_showAt_1 (by decide) h (fun h => ?_) (fun h => ?_)
    · refine V_sub [] rfl ?_
      exact k_X7_showAt_15 hT hl C hr hnm htab  h
    · refine V_iload_n (pc := 4) C dX7_showAt_4 rfl 1 rfl ?_
      refine V_aload_n (pc := 5) C dX7_showAt_5 rfl 0 rfl ?_
      refine V_getF (pc := 6) C hT f1_X7_3 g93 dX7_showAt_6 ?_
      refine V_callV (pc := 9) C (ct_size hT hl h) g200 g201 g202 g203 g36 ⟨by decide, by decide, pl_Jx4a65c_size_8abf5⟩ (enc_ne63 (by decide)) (ct_obj hT rfl (by decide)) rfl ⟨by decide, by decide⟩ (rest := [Value.int a1]) rfl (le8 rfl) dX7_showAt_9 (fun v2 S1 h => ?_) (fun k9 S9 hk h => VX_out C htab hk (h.2 (by omega)))
      replace h := h.1 rfl
      refine V_st (st' := [Value.int v2, Value.int a1]) rfl ?_
      refine V_icmp_lt (pc := 12) (tgt := 26) C dX7_showAt_12 (by decide) h (fun h => ?_) (fun h => ?_)
      · refine V_aload_n (pc := 26) C dX7_showAt_26 rfl 0 rfl ?_
        refine V_getF (pc := 27) C hT f1_X7_3 g93 dX7_showAt_27 ?_
        refine V_iload_n (pc := 30) C dX7_showAt_30 rfl 1 rfl ?_
        refine V_callV (pc := 31) C (ct_get hT hl (by decide) h) g332 g333 g334 g335 g36 ⟨by decide, by decide, pl_Jx4a65c_get_915e3⟩ (enc_ne63 (by decide)) (ct_obj hT rfl (by decide)) rfl ⟨by decide, by decide⟩ (rest := []) rfl (le8 rfl) dX7_showAt_31 (fun v5 S4 h => ?_) (fun k9 S9 hk h => VX_out C htab hk (h.2 (by omega)))
        replace h := h.1 rfl
        refine V_st (st' := [Value.ref (enc 6 (nt v5))]) rfl ?_
        refine V_cast (pc := 34) C hT (by decide) rfl rfl g451 dX7_showAt_34 ?_
        exact V_aret (pc := 37) C hr rfl h dX7_showAt_37
      · refine V_sub [] rfl ?_
        exact k_X7_showAt_15 hT hl C hr hnm htab  h
theorem pl_X7_needPlanned : (parseMethodDescriptor yX7_needPlanned.desc).map (fun d => d.parameters.length) = some 1 := by decide +kernel
def w_X7_needPlanned (a0 : Int32) (S : Sg) (Q : Nat → Int32 → Sg → Prop) : Prop := (((S.1 56 (nt a0)) = 0 → Q 0 0 S) ∧ (¬ (S.1 56 (nt a0)) = 0 → (S.2.1 + 1 ≤ nB1 ∧ S.2.2 + 6 ≤ nB2 ∧ Q 2 0 (tS S))))
theorem ct_X7_needPlanned (hT : xT X = tb1) (hl : l.stackTraces = false) {a0 : Int32} {S : Sg} (h : w_X7_needPlanned a0 S Qa) : CT X k0 l yX7_needPlanned cX7_needPlanned 1 none 6 82 [Value.ref (enc 6 (nt a0))] rvV S Qa :=
  CT_ofV (own := RX7) (by decide +kernel) (le8 rfl) rfl hl fun p e R s m args below meth c ad0 C hr hnm htab => by
    refine V_aload_n (pc := 0) C dX7_needPlanned_0 rfl 0 rfl ?_
    refine V_getI (pc := 1) C hT f1_X5_6 g511 dX7_needPlanned_1 ?_
    refine V_if_eq (pc := 4) (tgt := 18) C dX7_needPlanned_4 (by decide) h (fun h => ?_) (fun h => ?_)
    · exact V_vret (pc := 18) C hr rfl h dX7_needPlanned_18
    · exact V_throwW (pc := 7) C htab (k9 := 2) (by decide) at_RX7_2 str_RX7_345 ⟨by decide, le8 rfl⟩ dX7_needPlanned_7 dX7_needPlanned_10 dX7_needPlanned_11 dX7_needPlanned_14 dX7_needPlanned_17 h
theorem pl_X7_cancel : (parseMethodDescriptor yX7_cancel.desc).map (fun d => d.parameters.length) = some 1 := by decide +kernel
def w_X7_cancel_133 (k89 : Int32 → Int32 → Int32 → Int32 → Sg → Prop) (Q : Nat → Int32 → Sg → Prop) (x1 : Int32) (x2 : Int32) (x3 : Int32) (x4 : Int32) (S : Sg) : Prop := k89 x1 x2 x3 (x4 + 1) S
theorem k_X7_cancel_133 (hT : xT X = tb1) (hl : l.stackTraces = false) (C : Cn X k0 p l R s m meth c cX7_cancel RX7 6 7 103) (hr : meth.sig.returnType = (some .int)) (hnm : meth.name = yX7_cancel.name) (htab : ∀ x ∈ c.exceptionTable.toList, False) {k89 : Int32 → Int32 → Int32 → Int32 → Sg → Prop} (hk89 : ∀ {x1 : Int32} {x2 : Int32} {x3 : Int32} {x4 : Int32} {S : Sg}, k89 x1 x2 x3 x4 S → V X p l e R s m args below meth c 6 (QM X below args s S0 ad0 rvI Qa) S0 ad0 S 89 [(0, Value.ref (enc 0 0)), (1, Value.int x1), (2, Value.ref (enc 6 (nt x2))), (3, Value.int x3), (4, Value.int x4)] []) {x1 : Int32} {x2 : Int32} {x3 : Int32} {x4 : Int32} {S : Sg} (h : w_X7_cancel_133 k89 Qa x1 x2 x3 x4 S) : V X p l e R s m args below meth c 6 (QM X below args s S0 ad0 rvI Qa) S0 ad0 S 133 [(0, Value.ref (enc 0 0)), (1, Value.int x1), (2, Value.ref (enc 6 (nt x2))), (3, Value.int x3), (4, Value.int x4)] [] := by
  refine V_iinc (pc := 133) C (a := 4) (v := x4 + 1) dX7_cancel_133 rfl rfl (by decide) rfl ?_
  refine V_goto (pc := 136) (tgt := 89) C dX7_cancel_136 (by decide) ?_
  refine V_sub [1, 2, 3, 4, 0] rfl ?_
  exact hk89 h
def w_X7_cancel_89  (Q : Nat → Int32 → Sg → Prop) : Nat → Int32 → Int32 → Int32 → Int32 → Sg → Prop
  | 0, _, _, _, _, _ => False
  | n + 1, x1, x2, x3, x4, S => (w_size 4 S (fun k3 v2 S1 => (k3 = 0 → ((v2 ≤ x4 → (w_X5_clearPlaces x2 S1 (fun k6 v5 S4 => (k6 = 0 → (¬ S4.1 55 (nt x2) < 0 ∧ (w_X4_clearAway (S4.1 55 (nt x2)) S4 (fun k9 v8 S7 => (k9 = 0 → (∀ S10, S10 = su S7 56 (nt x2) 4 → Q 0 x3 S10)) ∧ (¬ k9 = 0 → Q k9 0 S7))))) ∧ (¬ k6 = 0 → Q k6 0 S4)))) ∧ (¬ v2 ≤ x4 → (w_get 4 x4 S1 (fun k13 v12 S11 => (k13 = 0 → (¬ S11.1 60 (nt v12) < 0 ∧ (((S11.1 50 (nt (S11.1 60 (nt v12)))) = x1 → (∀ S14, S14 = su S11 63 (nt v12) 1 → w_X7_cancel_133 (fun x1 x2 x3 x4 S => w_X7_cancel_89  Q n x1 x2 x3 x4 S) Q x1 x2 x3 x4 S14)) ∧ (¬ (S11.1 50 (nt (S11.1 60 (nt v12)))) = x1 → w_X7_cancel_133 (fun x1 x2 x3 x4 S => w_X7_cancel_89  Q n x1 x2 x3 x4 S) Q x1 x2 x3 x4 S11)))) ∧ (¬ k13 = 0 → Q k13 0 S11)))))) ∧ (¬ k3 = 0 → Q k3 0 S1)))
theorem k_X7_cancel_89 (hT : xT X = tb1) (hl : l.stackTraces = false) (C : Cn X k0 p l R s m meth c cX7_cancel RX7 6 7 103) (hr : meth.sig.returnType = (some .int)) (hnm : meth.name = yX7_cancel.name) (htab : ∀ x ∈ c.exceptionTable.toList, False)  : ∀ n {x1 : Int32} {x2 : Int32} {x3 : Int32} {x4 : Int32} {S : Sg}, w_X7_cancel_89  Qa n x1 x2 x3 x4 S → V X p l e R s m args below meth c 6 (QM X below args s S0 ad0 rvI Qa) S0 ad0 S 89 [(0, Value.ref (enc 0 0)), (1, Value.int x1), (2, Value.ref (enc 6 (nt x2))), (3, Value.int x3), (4, Value.int x4)] [] := by
  intro n
  induction n with
  | zero => intro x1 x2 x3 x4 S h; exact h.elim
  | succ n ih =>
    intro x1 x2 x3 x4 S h
    refine V_iload (pc := 89) C dX7_cancel_89 4 rfl ?_
    refine V_aload_n (pc := 91) C dX7_cancel_91 rfl 0 rfl ?_
    refine V_getF (pc := 92) C hT f1_X7_4 g94 dX7_cancel_92 ?_
    refine V_callV (pc := 95) C (ct_size hT hl h) g200 g201 g202 g203 g36 ⟨by decide, by decide, pl_Jx4a65c_size_8abf5⟩ (enc_ne63 (by decide)) (ct_obj hT rfl (by decide)) rfl ⟨by decide, by decide⟩ (rest := [Value.int x4]) rfl (le8 rfl) dX7_cancel_95 (fun v2 S1 h => ?_) (fun k9 S9 hk h => VX_out C htab hk (h.2 (by omega)))
    replace h := h.1 rfl
    refine V_st (st' := [Value.int v2, Value.int x4]) rfl ?_
    refine V_icmp_ge (pc := 98) (tgt := 139) C dX7_cancel_98 (by decide) h (fun h => ?_) (fun h => ?_)
    · refine V_aload_n (pc := 139) C dX7_cancel_139 rfl 2 rfl ?_
      refine V_callV (pc := 140) C (ct_X5_clearPlaces hT hl h) g551 g552 g553 g554 g52 ⟨by decide, by decide, pl_X5_clearPlaces⟩ (enc_ne63 (by decide)) (ct_obj hT rfl (by decide)) rfl ⟨by decide, by decide⟩ (rest := []) rfl (le8 rfl) dX7_cancel_140 (fun v5 S4 h => ?_) (fun k9 S9 hk h => VX_out C htab hk (h.2 (by omega)))
      replace h := h.1 rfl
      refine V_st (st' := []) rfl ?_
      refine V_aload_n (pc := 143) C dX7_cancel_143 rfl 2 rfl ?_
      refine V_getR (pc := 144) C hT f1_X5_5 (by decide) g509 dX7_cancel_144 h (fun h => ?_)
      refine V_callV (pc := 147) C (ct_X4_clearAway hT hl h) g555 g556 g557 g558 g53 ⟨by decide, by decide, pl_X4_clearAway⟩ (enc_ne63 (by decide)) (ct_obj hT rfl (by decide)) rfl ⟨by decide, by decide⟩ (rest := []) rfl (le8 rfl) dX7_cancel_147 (fun v8 S7 h => ?_) (fun k9 S9 hk h => VX_out C htab hk (h.2 (by omega)))
      replace h := h.1 rfl
      refine V_st (st' := []) rfl ?_
      refine V_aload_n (pc := 150) C dX7_cancel_150 rfl 2 rfl ?_
      refine V_iconst (pc := 151) C (v := 4) dX7_cancel_151 rfl ?_
      refine V_putI (pc := 152) C hT tb1_ok f1_X5_6 (by unfold lc; decide) g511 (Or.inl rfl) (Or.inl rfl) dX7_cancel_152 (V_nx fun S10 e9 => ?_)
      replace h := h S10 e9; clear e9
      refine V_iload_n (pc := 155) C dX7_cancel_155 rfl 3 rfl ?_
      exact V_iret (pc := 156) C hr rfl h dX7_cancel_156
    · refine V_aload_n (pc := 101) C dX7_cancel_101 rfl 0 rfl ?_
      refine V_getF (pc := 102) C hT f1_X7_4 g94 dX7_cancel_102 ?_
      refine V_iload (pc := 105) C dX7_cancel_105 4 rfl ?_
      refine V_callV (pc := 107) C (ct_get hT hl (by decide) h) g332 g333 g334 g335 g36 ⟨by decide, by decide, pl_Jx4a65c_get_915e3⟩ (enc_ne63 (by decide)) (ct_obj hT rfl (by decide)) rfl ⟨by decide, by decide⟩ (rest := []) rfl (le8 rfl) dX7_cancel_107 (fun v12 S11 h => ?_) (fun k9 S9 hk h => VX_out C htab hk (h.2 (by omega)))
      replace h := h.1 rfl
      refine V_st (st' := [Value.ref (enc 7 (nt v12))]) rfl ?_
      refine V_cast (pc := 110) C hT (by decide) rfl rfl g550 dX7_cancel_110 ?_
      refine V_astore (pc := 113) C dX7_cancel_113 (by decide) rfl ?_
      refine V_aload (pc := 115) C dX7_cancel_115 0 rfl ?_
      refine V_getR (pc := 117) C hT f1_X2_0 (by decide) g655 dX7_cancel_117 h (fun h => ?_)
      refine V_getI (pc := 120) C hT f1_X5_0 g499 dX7_cancel_120 ?_
      refine V_iload_n (pc := 123) C dX7_cancel_123 rfl 2 rfl ?_
      refine V_icmp_ne (pc := 124) (tgt := 133) C dX7_cancel_124 (by decide) h (fun h => ?_) (fun h => ?_)
      · refine V_sub [1, 2, 3, 4, 5] rfl ?_
        exact k_X7_cancel_133 hT hl C hr hnm htab (fun h => ih h) h
      · refine V_aload (pc := 127) C dX7_cancel_127 0 rfl ?_
        refine V_iconst (pc := 129) C (v := 1) dX7_cancel_129 rfl ?_
        refine V_putI (pc := 130) C hT tb1_ok f1_X2_3 (by unfold lc; decide) g661 (Or.inl rfl) (Or.inr ⟨rfl, by decide⟩) dX7_cancel_130 (V_nx fun S14 e9 => ?_)
        replace h := h S14 e9; clear e9
        refine V_sub [1, 2, 3, 4, 5] rfl ?_
        exact k_X7_cancel_133 hT hl C hr hnm htab (fun h => ih h) h
def w_X7_cancel_80 (k15 : Int32 → Int32 → Int32 → Int32 → Sg → Prop) (Q : Nat → Int32 → Sg → Prop) (x1 : Int32) (x2 : Int32) (x3 : Int32) (x4 : Int32) (S : Sg) : Prop := k15 x1 x2 x3 (x4 + 1) S
theorem k_X7_cancel_80 (hT : xT X = tb1) (hl : l.stackTraces = false) (C : Cn X k0 p l R s m meth c cX7_cancel RX7 6 7 103) (hr : meth.sig.returnType = (some .int)) (hnm : meth.name = yX7_cancel.name) (htab : ∀ x ∈ c.exceptionTable.toList, False) {k15 : Int32 → Int32 → Int32 → Int32 → Sg → Prop} (hk15 : ∀ {x1 : Int32} {x2 : Int32} {x3 : Int32} {x4 : Int32} {S : Sg}, k15 x1 x2 x3 x4 S → V X p l e R s m args below meth c 6 (QM X below args s S0 ad0 rvI Qa) S0 ad0 S 15 [(0, Value.ref (enc 0 0)), (1, Value.int x1), (2, Value.ref (enc 6 (nt x2))), (3, Value.int x3), (4, Value.int x4)] []) {x1 : Int32} {x2 : Int32} {x3 : Int32} {x4 : Int32} {S : Sg} (h : w_X7_cancel_80 k15 Qa x1 x2 x3 x4 S) : V X p l e R s m args below meth c 6 (QM X below args s S0 ad0 rvI Qa) S0 ad0 S 80 [(0, Value.ref (enc 0 0)), (1, Value.int x1), (2, Value.ref (enc 6 (nt x2))), (3, Value.int x3), (4, Value.int x4)] [] := by
  refine V_iinc (pc := 80) C (a := 4) (v := x4 + 1) dX7_cancel_80 rfl rfl (by decide) rfl ?_
  refine V_goto (pc := 83) (tgt := 15) C dX7_cancel_83 (by decide) ?_
  refine V_sub [1, 2, 3, 4, 0] rfl ?_
  exact hk15 h
def w_X7_cancel_15  (Q : Nat → Int32 → Sg → Prop) : Nat → Int32 → Int32 → Int32 → Int32 → Sg → Prop
  | 0, _, _, _, _, _ => False
  | n + 1, x1, x2, x3, x4, S => (w_size 5 S (fun k17 v16 S15 => (k17 = 0 → ((v16 ≤ x4 → ∃ n9, w_X7_cancel_89  Q n9 x1 x2 x3 0 S15) ∧ (¬ v16 ≤ x4 → (w_get 5 x4 S15 (fun k20 v19 S18 => (k20 = 0 → (¬ S18.1 70 (nt v19) < 0 ∧ (((S18.1 50 (nt (S18.1 70 (nt v19)))) = x1 → (((S18.1 74 (nt v19)) = 0 → (∀ S21, S21 = su S18 74 (nt v19) 1 → (w_X6_payBack v19 (S21.1 73 (nt v19)) S21 (fun k24 v23 S22 => (k24 = 0 → (∀ v25, v25 = x3 + v23 → w_X7_cancel_80 (fun x1 x2 x3 x4 S => w_X7_cancel_15  Q n x1 x2 x3 x4 S) Q x1 x2 v25 x4 S22)) ∧ (¬ k24 = 0 → Q k24 0 S22))))) ∧ (¬ (S18.1 74 (nt v19)) = 0 → w_X7_cancel_80 (fun x1 x2 x3 x4 S => w_X7_cancel_15  Q n x1 x2 x3 x4 S) Q x1 x2 x3 x4 S18))) ∧ (¬ (S18.1 50 (nt (S18.1 70 (nt v19)))) = x1 → w_X7_cancel_80 (fun x1 x2 x3 x4 S => w_X7_cancel_15  Q n x1 x2 x3 x4 S) Q x1 x2 x3 x4 S18)))) ∧ (¬ k20 = 0 → Q k20 0 S18)))))) ∧ (¬ k17 = 0 → Q k17 0 S15)))
theorem k_X7_cancel_15 (hT : xT X = tb1) (hl : l.stackTraces = false) (C : Cn X k0 p l R s m meth c cX7_cancel RX7 6 7 103) (hr : meth.sig.returnType = (some .int)) (hnm : meth.name = yX7_cancel.name) (htab : ∀ x ∈ c.exceptionTable.toList, False)  : ∀ n {x1 : Int32} {x2 : Int32} {x3 : Int32} {x4 : Int32} {S : Sg}, w_X7_cancel_15  Qa n x1 x2 x3 x4 S → V X p l e R s m args below meth c 6 (QM X below args s S0 ad0 rvI Qa) S0 ad0 S 15 [(0, Value.ref (enc 0 0)), (1, Value.int x1), (2, Value.ref (enc 6 (nt x2))), (3, Value.int x3), (4, Value.int x4)] [] := by
  intro n
  induction n with
  | zero => intro x1 x2 x3 x4 S h; exact h.elim
  | succ n ih =>
    intro x1 x2 x3 x4 S h
    refine V_iload (pc := 15) C dX7_cancel_15 4 rfl ?_
    refine V_aload_n (pc := 17) C dX7_cancel_17 rfl 0 rfl ?_
    refine V_getF (pc := 18) C hT f1_X7_5 g95 dX7_cancel_18 ?_
    refine V_callV (pc := 21) C (ct_size hT hl h) g200 g201 g202 g203 g36 ⟨by decide, by decide, pl_Jx4a65c_size_8abf5⟩ (enc_ne63 (by decide)) (ct_obj hT rfl (by decide)) rfl ⟨by decide, by decide⟩ (rest := [Value.int x4]) rfl (le8 rfl) dX7_cancel_21 (fun v16 S15 h => ?_) (fun k9 S9 hk h => VX_out C htab hk (h.2 (by omega)))
    replace h := h.1 rfl
    refine V_st (st' := [Value.int v16, Value.int x4]) rfl ?_
    refine V_icmp_ge (pc := 24) (tgt := 86) C dX7_cancel_24 (by decide) h (fun h => ?_) (fun h => ?_)
    · refine V_iconst (pc := 86) C (v := 0) dX7_cancel_86 rfl ?_
      refine V_istore (pc := 87) C dX7_cancel_87 (by decide) rfl ?_
      refine V_sub [1, 2, 3, 4, 0] rfl ?_
      obtain ⟨n9, h⟩ := h
      exact k_X7_cancel_89 hT hl C hr hnm htab  n9 h
    · refine V_aload_n (pc := 27) C dX7_cancel_27 rfl 0 rfl ?_
      refine V_getF (pc := 28) C hT f1_X7_5 g95 dX7_cancel_28 ?_
      refine V_iload (pc := 31) C dX7_cancel_31 4 rfl ?_
      refine V_callV (pc := 33) C (ct_get hT hl (by decide) h) g332 g333 g334 g335 g36 ⟨by decide, by decide, pl_Jx4a65c_get_915e3⟩ (enc_ne63 (by decide)) (ct_obj hT rfl (by decide)) rfl ⟨by decide, by decide⟩ (rest := []) rfl (le8 rfl) dX7_cancel_33 (fun v19 S18 h => ?_) (fun k9 S9 hk h => VX_out C htab hk (h.2 (by omega)))
      replace h := h.1 rfl
      refine V_st (st' := [Value.ref (enc 8 (nt v19))]) rfl ?_
      refine V_cast (pc := 36) C hT (by decide) rfl rfl g545 dX7_cancel_36 ?_
      refine V_astore (pc := 39) C dX7_cancel_39 (by decide) rfl ?_
      refine V_aload (pc := 41) C dX7_cancel_41 0 rfl ?_
      refine V_getR (pc := 43) C hT f1_X6_0 (by decide) g607 dX7_cancel_43 h (fun h => ?_)
      refine V_getI (pc := 46) C hT f1_X5_0 g499 dX7_cancel_46 ?_
      refine V_iload_n (pc := 49) C dX7_cancel_49 rfl 2 rfl ?_
      refine V_icmp_ne (pc := 50) (tgt := 80) C dX7_cancel_50 (by decide) h (fun h => ?_) (fun h => ?_)
      · refine V_sub [1, 2, 3, 4, 5] rfl ?_
        exact k_X7_cancel_80 hT hl C hr hnm htab (fun h => ih h) h
      · refine V_aload (pc := 53) C dX7_cancel_53 0 rfl ?_
        refine V_getI (pc := 55) C hT f1_X6_4 g615 dX7_cancel_55 ?_
        refine V_if_ne (pc := 58) (tgt := 80) C dX7_cancel_58 (by decide) h (fun h => ?_) (fun h => ?_)
        · refine V_sub [1, 2, 3, 4, 5] rfl ?_
          exact k_X7_cancel_80 hT hl C hr hnm htab (fun h => ih h) h
        · refine V_aload (pc := 61) C dX7_cancel_61 0 rfl ?_
          refine V_iconst (pc := 63) C (v := 1) dX7_cancel_63 rfl ?_
          refine V_putI (pc := 64) C hT tb1_ok f1_X6_4 (by unfold lc; decide) g615 (Or.inl rfl) (Or.inr ⟨rfl, by decide⟩) dX7_cancel_64 (V_nx fun S21 e9 => ?_)
          replace h := h S21 e9; clear e9
          refine V_iload_n (pc := 67) C dX7_cancel_67 rfl 4 rfl ?_
          refine V_aload (pc := 68) C dX7_cancel_68 0 rfl ?_
          refine V_aload (pc := 70) C dX7_cancel_70 0 rfl ?_
          refine V_getI (pc := 72) C hT f1_X6_3 g613 dX7_cancel_72 ?_
          refine V_callV (pc := 75) C (ct_X6_payBack hT hl h) g546 g547 g548 g549 g54 ⟨by decide, by decide, pl_X6_payBack⟩ (enc_ne63 (by decide)) (ct_obj hT rfl (by decide)) rfl ⟨by decide, by decide⟩ (rest := [Value.int x3]) rfl (le8 rfl) dX7_cancel_75 (fun v23 S22 h => ?_) (fun k9 S9 hk h => VX_out C htab hk (h.2 (by omega)))
          replace h := h.1 rfl
          refine V_st (st' := [Value.int v23, Value.int x3]) rfl ?_
          refine V_iadd (pc := 78) C dX7_cancel_78 ?_
          refine V_nI fun v25 e9 => ?_
          replace h := h v25 e9; clear e9
          refine V_istore_n (pc := 79) C dX7_cancel_79 rfl (by decide) rfl ?_
          refine V_sub [2, 3, 4, 0, 5] rfl ?_
          exact k_X7_cancel_80 hT hl C hr hnm htab (fun h => ih h) h
def w_X7_cancel (a1 : Int32) (S : Sg) (Q : Nat → Int32 → Sg → Prop) : Prop := (w_X7_showAt a1 S (fun k28 v27 S26 => (k28 = 0 → (w_X7_needPlanned v27 S26 (fun k31 v30 S29 => (k31 = 0 → ∃ n9, w_X7_cancel_15  Q n9 a1 v27 0 0 S29) ∧ (¬ k31 = 0 → Q k31 0 S29)))) ∧ (¬ k28 = 0 → Q k28 0 S26)))
theorem ct_X7_cancel (hT : xT X = tb1) (hl : l.stackTraces = false) {a1 : Int32} {S : Sg} (h : w_X7_cancel a1 S Qa) : CT X k0 l yX7_cancel cX7_cancel 6 (some .int) 7 103 [Value.ref (enc 0 0), Value.int a1] rvI S Qa :=
  CT_ofV (own := RX7) (by decide +kernel) (le8 rfl) rfl hl fun p e R s m args below meth c ad0 C hr hnm htab => by
    refine V_aload_n (pc := 0) C dX7_cancel_0 rfl 0 rfl ?_
    refine V_iload_n (pc := 1) C dX7_cancel_1 rfl 1 rfl ?_
    refine V_callV (pc := 2) C (ct_X7_showAt hT hl h) g536 g538 g11 g539 g33 ⟨by decide, by decide, pl_X7_showAt⟩ (enc_ne63 (by decide)) (ct_obj hT rfl (by decide)) rfl ⟨by decide, by decide⟩ (rest := []) rfl (le8 rfl) dX7_cancel_2 (fun v27 S26 h => ?_) (fun k9 S9 hk h => VX_out C htab hk (h.2 (by omega)))
    replace h := h.1 rfl
    refine V_st (st' := [Value.ref (enc 6 (nt v27))]) rfl ?_
    refine V_astore_n (pc := 5) C dX7_cancel_5 rfl (by decide) rfl ?_
    refine V_aload_n (pc := 6) C dX7_cancel_6 rfl 0 rfl ?_
    refine V_callS (pc := 7) C (ct_X7_needPlanned hT hl h) g541 g542 g543 g33 ⟨by decide, by decide, pl_X7_needPlanned⟩ ⟨by decide, by decide⟩ (rest := []) rfl (le8 rfl) dX7_cancel_7 (fun v30 S29 h => ?_) (fun k9 S9 hk h => VX_out C htab hk (h.2 (by omega)))
    replace h := h.1 rfl
    refine V_st (st' := []) rfl ?_
    refine V_iconst (pc := 10) C (v := 0) dX7_cancel_10 rfl ?_
    refine V_istore_n (pc := 11) C dX7_cancel_11 rfl (by decide) rfl ?_
    refine V_iconst (pc := 12) C (v := 0) dX7_cancel_12 rfl ?_
    refine V_istore (pc := 13) C dX7_cancel_13 (by decide) rfl ?_
    refine V_sub [3, 4, 2, 1, 0] rfl ?_
    obtain ⟨n9, h⟩ := h
    exact k_X7_cancel_15 hT hl C hr hnm htab  n9 h
theorem pl_X7_breaks : (parseMethodDescriptor yX7_breaks.desc).map (fun d => d.parameters.length) = some 1 := by decide +kernel
def w_X7_breaks_138 (k62 : Int32 → Int32 → Int32 → Int32 → Int32 → Int32 → Sg → Prop) (Q : Nat → Int32 → Sg → Prop) (x1 : Int32) (x2 : Int32) (x3 : Int32) (x4 : Int32) (x5 : Int32) (x6 : Int32) (S : Sg) : Prop := k62 x1 x2 x3 x4 x5 (x6 + 1) S
theorem k_X7_breaks_138 (hT : xT X = tb1) (hl : l.stackTraces = false) (C : Cn X k0 p l R s m meth c cX7_breaks RX7 8 7 103) (hr : meth.sig.returnType = (some .int)) (hnm : meth.name = yX7_breaks.name) (htab : ∀ x ∈ c.exceptionTable.toList, False) {k62 : Int32 → Int32 → Int32 → Int32 → Int32 → Int32 → Sg → Prop} (hk62 : ∀ {x1 : Int32} {x2 : Int32} {x3 : Int32} {x4 : Int32} {x5 : Int32} {x6 : Int32} {S : Sg}, k62 x1 x2 x3 x4 x5 x6 S → V X p l e R s m args below meth c 8 (QM X below args s S0 ad0 rvI Qa) S0 ad0 S 62 [(0, Value.ref (enc 0 0)), (1, Value.int x1), (2, Value.ref (enc 6 (nt x2))), (3, Value.int x3), (4, Value.int x4), (5, Value.int x5), (6, Value.int x6)] []) {x1 : Int32} {x2 : Int32} {x3 : Int32} {x4 : Int32} {x5 : Int32} {x6 : Int32} {S : Sg} (h : w_X7_breaks_138 k62 Qa x1 x2 x3 x4 x5 x6 S) : V X p l e R s m args below meth c 8 (QM X below args s S0 ad0 rvI Qa) S0 ad0 S 138 [(0, Value.ref (enc 0 0)), (1, Value.int x1), (2, Value.ref (enc 6 (nt x2))), (3, Value.int x3), (4, Value.int x4), (5, Value.int x5), (6, Value.int x6)] [] := by
  refine V_iinc (pc := 138) C (a := 6) (v := x6 + 1) dX7_breaks_138 rfl rfl (by decide) rfl ?_
  refine V_goto (pc := 141) (tgt := 62) C dX7_breaks_141 (by decide) ?_
  refine V_sub [1, 2, 3, 4, 5, 6, 0] rfl ?_
  exact hk62 h
def w_X7_breaks_132 (k62 : Int32 → Int32 → Int32 → Int32 → Int32 → Int32 → Sg → Prop) (Q : Nat → Int32 → Sg → Prop) (x1 : Int32) (x2 : Int32) (x3 : Int32) (x4 : Int32) (x6 : Int32) (y0 : Int32) (y1 : Int32) (y2 : Int32) (S : Sg) : Prop := (w_X6_payBack y1 y0 S (fun k3 v2 S1 => (k3 = 0 → (∀ v4, v4 = y2 + v2 → w_X7_breaks_138 k62 Q x1 x2 x3 x4 v4 x6 S1)) ∧ (¬ k3 = 0 → Q k3 0 S1)))
theorem k_X7_breaks_132 (hT : xT X = tb1) (hl : l.stackTraces = false) (C : Cn X k0 p l R s m meth c cX7_breaks RX7 8 7 103) (hr : meth.sig.returnType = (some .int)) (hnm : meth.name = yX7_breaks.name) (htab : ∀ x ∈ c.exceptionTable.toList, False) {k62 : Int32 → Int32 → Int32 → Int32 → Int32 → Int32 → Sg → Prop} (hk62 : ∀ {x1 : Int32} {x2 : Int32} {x3 : Int32} {x4 : Int32} {x5 : Int32} {x6 : Int32} {S : Sg}, k62 x1 x2 x3 x4 x5 x6 S → V X p l e R s m args below meth c 8 (QM X below args s S0 ad0 rvI Qa) S0 ad0 S 62 [(0, Value.ref (enc 0 0)), (1, Value.int x1), (2, Value.ref (enc 6 (nt x2))), (3, Value.int x3), (4, Value.int x4), (5, Value.int x5), (6, Value.int x6)] []) {x1 : Int32} {x2 : Int32} {x3 : Int32} {x4 : Int32} {x6 : Int32} {y0 : Int32} {y1 : Int32} {y2 : Int32} {S : Sg} (h : w_X7_breaks_132 k62 Qa x1 x2 x3 x4 x6 y0 y1 y2 S) : V X p l e R s m args below meth c 8 (QM X below args s S0 ad0 rvI Qa) S0 ad0 S 132 [(0, Value.ref (enc 0 0)), (1, Value.int x1), (2, Value.ref (enc 6 (nt x2))), (3, Value.int x3), (4, Value.int x4), (6, Value.int x6)] [Value.int y0, Value.ref (enc 8 (nt y1)), Value.int y2] := by
  refine V_callV (pc := 132) C (ct_X6_payBack hT hl h) g546 g547 g548 g549 g54 ⟨by decide, by decide, pl_X6_payBack⟩ (enc_ne63 (by decide)) (ct_obj hT rfl (by decide)) rfl ⟨by decide, by decide⟩ (rest := [Value.int y2]) rfl (le8 rfl) dX7_breaks_132 (fun v2 S1 h => ?_) (fun k9 S9 hk h => VX_out C htab hk (h.2 (by omega)))
  replace h := h.1 rfl
  refine V_st (st' := [Value.int v2, Value.int y2]) rfl ?_
  refine V_iadd (pc := 135) C dX7_breaks_135 ?_
  refine V_nI fun v4 e9 => ?_
  replace h := h v4 e9; clear e9
  refine V_istore (pc := 136) C dX7_breaks_136 (by decide) rfl ?_
  refine V_sub [1, 2, 3, 4, 5, 0, 6] rfl ?_
  exact k_X7_breaks_138 hT hl C hr hnm htab (fun h => hk62 h) h
def w_X7_breaks_62  (Q : Nat → Int32 → Sg → Prop) : Nat → Int32 → Int32 → Int32 → Int32 → Int32 → Int32 → Sg → Prop
  | 0, _, _, _, _, _, _, _ => False
  | n + 1, x1, x2, x3, x4, x5, x6, S => (w_size 5 S (fun k7 v6 S5 => (k7 = 0 → ((v6 ≤ x6 → (¬ S5.1 52 (nt x2) < 0 ∧ (∀ S8, S8 = su S5 23 (nt (S5.1 52 (nt x2))) ((S5.1 23 (nt (S5.1 52 (nt x2)))) + x3) → (∀ S9, S9 = su S8 56 (nt x2) 3 → Q 0 x5 S9)))) ∧ (¬ v6 ≤ x6 → (w_get 5 x6 S5 (fun k12 v11 S10 => (k12 = 0 → (¬ S10.1 70 (nt v11) < 0 ∧ (((S10.1 50 (nt (S10.1 70 (nt v11)))) = x1 → (((S10.1 74 (nt v11)) = 0 → ((x4 = 0 → w_X7_breaks_132 (fun x1 x2 x3 x4 x5 x6 S => w_X7_breaks_62  Q n x1 x2 x3 x4 x5 x6 S) Q x1 x2 x3 x4 x6 ((S10.1 73 (nt v11)) / 2) v11 x5 S10) ∧ (¬ x4 = 0 → w_X7_breaks_132 (fun x1 x2 x3 x4 x5 x6 S => w_X7_breaks_62  Q n x1 x2 x3 x4 x5 x6 S) Q x1 x2 x3 x4 x6 (S10.1 73 (nt v11)) v11 x5 S10))) ∧ (¬ (S10.1 74 (nt v11)) = 0 → w_X7_breaks_138 (fun x1 x2 x3 x4 x5 x6 S => w_X7_breaks_62  Q n x1 x2 x3 x4 x5 x6 S) Q x1 x2 x3 x4 x5 x6 S10))) ∧ (¬ (S10.1 50 (nt (S10.1 70 (nt v11)))) = x1 → w_X7_breaks_138 (fun x1 x2 x3 x4 x5 x6 S => w_X7_breaks_62  Q n x1 x2 x3 x4 x5 x6 S) Q x1 x2 x3 x4 x5 x6 S10)))) ∧ (¬ k12 = 0 → Q k12 0 S10)))))) ∧ (¬ k7 = 0 → Q k7 0 S5)))
theorem k_X7_breaks_62 (hT : xT X = tb1) (hl : l.stackTraces = false) (C : Cn X k0 p l R s m meth c cX7_breaks RX7 8 7 103) (hr : meth.sig.returnType = (some .int)) (hnm : meth.name = yX7_breaks.name) (htab : ∀ x ∈ c.exceptionTable.toList, False)  : ∀ n {x1 : Int32} {x2 : Int32} {x3 : Int32} {x4 : Int32} {x5 : Int32} {x6 : Int32} {S : Sg}, w_X7_breaks_62  Qa n x1 x2 x3 x4 x5 x6 S → V X p l e R s m args below meth c 8 (QM X below args s S0 ad0 rvI Qa) S0 ad0 S 62 [(0, Value.ref (enc 0 0)), (1, Value.int x1), (2, Value.ref (enc 6 (nt x2))), (3, Value.int x3), (4, Value.int x4), (5, Value.int x5), (6, Value.int x6)] [] := by
  intro n
  induction n with
  | zero => intro x1 x2 x3 x4 x5 x6 S h; exact h.elim
  | succ n ih =>
    intro x1 x2 x3 x4 x5 x6 S h
    refine V_iload (pc := 62) C dX7_breaks_62 6 rfl ?_
    refine V_aload_n (pc := 64) C dX7_breaks_64 rfl 0 rfl ?_
    refine V_getF (pc := 65) C hT f1_X7_5 g95 dX7_breaks_65 ?_
    refine V_callV (pc := 68) C (ct_size hT hl h) g200 g201 g202 g203 g36 ⟨by decide, by decide, pl_Jx4a65c_size_8abf5⟩ (enc_ne63 (by decide)) (ct_obj hT rfl (by decide)) rfl ⟨by decide, by decide⟩ (rest := [Value.int x6]) rfl (le8 rfl) dX7_breaks_68 (fun v6 S5 h => ?_) (fun k9 S9 hk h => VX_out C htab hk (h.2 (by omega)))
    replace h := h.1 rfl
    refine V_st (st' := [Value.int v6, Value.int x6]) rfl ?_
    refine V_icmp_ge (pc := 71) (tgt := 144) C dX7_breaks_71 (by decide) h (fun h => ?_) (fun h => ?_)
    · refine V_aload_n (pc := 144) C dX7_breaks_144 rfl 2 rfl ?_
      refine V_getR (pc := 145) C hT f1_X5_2 (by decide) g503 dX7_breaks_145 h (fun h => ?_)
      refine V_dup (pc := 148) C dX7_breaks_148 rfl ?_
      refine V_getI (pc := 149) C hT f1_X1_3 g235 dX7_breaks_149 ?_
      refine V_iload_n (pc := 152) C dX7_breaks_152 rfl 3 rfl ?_
      refine V_iadd (pc := 153) C dX7_breaks_153 ?_
      refine V_putI (pc := 154) C hT tb1_ok f1_X1_3 (by unfold lc; decide) g235 (Or.inl rfl) (Or.inl rfl) dX7_breaks_154 (V_nx fun S8 e9 => ?_)
      replace h := h S8 e9; clear e9
      refine V_aload_n (pc := 157) C dX7_breaks_157 rfl 2 rfl ?_
      refine V_iconst (pc := 158) C (v := 3) dX7_breaks_158 rfl ?_
      refine V_putI (pc := 159) C hT tb1_ok f1_X5_6 (by unfold lc; decide) g511 (Or.inl rfl) (Or.inl rfl) dX7_breaks_159 (V_nx fun S9 e9 => ?_)
      replace h := h S9 e9; clear e9
      refine V_iload (pc := 162) C dX7_breaks_162 5 rfl ?_
      exact V_iret (pc := 164) C hr rfl h dX7_breaks_164
    · refine V_aload_n (pc := 74) C dX7_breaks_74 rfl 0 rfl ?_
      refine V_getF (pc := 75) C hT f1_X7_5 g95 dX7_breaks_75 ?_
      refine V_iload (pc := 78) C dX7_breaks_78 6 rfl ?_
      refine V_callV (pc := 80) C (ct_get hT hl (by decide) h) g332 g333 g334 g335 g36 ⟨by decide, by decide, pl_Jx4a65c_get_915e3⟩ (enc_ne63 (by decide)) (ct_obj hT rfl (by decide)) rfl ⟨by decide, by decide⟩ (rest := []) rfl (le8 rfl) dX7_breaks_80 (fun v11 S10 h => ?_) (fun k9 S9 hk h => VX_out C htab hk (h.2 (by omega)))
      replace h := h.1 rfl
      refine V_st (st' := [Value.ref (enc 8 (nt v11))]) rfl ?_
      refine V_cast (pc := 83) C hT (by decide) rfl rfl g545 dX7_breaks_83 ?_
      refine V_astore (pc := 86) C dX7_breaks_86 (by decide) rfl ?_
      refine V_aload (pc := 88) C dX7_breaks_88 0 rfl ?_
      refine V_getR (pc := 90) C hT f1_X6_0 (by decide) g607 dX7_breaks_90 h (fun h => ?_)
      refine V_getI (pc := 93) C hT f1_X5_0 g499 dX7_breaks_93 ?_
      refine V_iload_n (pc := 96) C dX7_breaks_96 rfl 2 rfl ?_
      refine V_icmp_ne (pc := 97) (tgt := 138) C dX7_breaks_97 (by decide) h (fun h => ?_) (fun h => ?_)
      · refine V_sub [1, 2, 3, 4, 5, 6, 7] rfl ?_
        exact k_X7_breaks_138 hT hl C hr hnm htab (fun h => ih h) h
      · refine V_aload (pc := 100) C dX7_breaks_100 0 rfl ?_
        refine V_getI (pc := 102) C hT f1_X6_4 g615 dX7_breaks_102 ?_
        refine V_if_ne (pc := 105) (tgt := 138) C dX7_breaks_105 (by decide) h (fun h => ?_) (fun h => ?_)
        · refine V_sub [1, 2, 3, 4, 5, 6, 7] rfl ?_
          exact k_X7_breaks_138 hT hl C hr hnm htab (fun h => ih h) h
        · refine V_iload (pc := 108) C dX7_breaks_108 6 rfl ?_
          refine V_aload (pc := 110) C dX7_breaks_110 0 rfl ?_
          refine V_iload (pc := 112) C dX7_breaks_112 5 rfl ?_
          refine V_if_eq (pc := 114) (tgt := 125) C dX7_breaks_114 (by decide) h (fun h => ?_) (fun h => ?_)
          · refine V_aload (pc := 125) C dX7_breaks_125 0 rfl ?_
            refine V_getI (pc := 127) C hT f1_X6_3 g613 dX7_breaks_127 ?_
            refine V_iconst (pc := 130) C (v := 2) dX7_breaks_130 rfl ?_
            refine V_idiv (pc := 131) C dX7_breaks_131 (by decide) ?_
            refine V_sub [1, 2, 3, 4, 5, 7] rfl ?_
            exact k_X7_breaks_132 hT hl C hr hnm htab (fun h => ih h) h
          · refine V_aload (pc := 117) C dX7_breaks_117 0 rfl ?_
            refine V_getI (pc := 119) C hT f1_X6_3 g613 dX7_breaks_119 ?_
            refine V_goto (pc := 122) (tgt := 132) C dX7_breaks_122 (by decide) ?_
            refine V_sub [1, 2, 3, 4, 5, 7] rfl ?_
            exact k_X7_breaks_132 hT hl C hr hnm htab (fun h => ih h) h
def w_X7_breaks_54  (Q : Nat → Int32 → Sg → Prop) (x1 : Int32) (x2 : Int32) (x3 : Int32) (y0 : Int32) (S : Sg) : Prop := ∃ n9, w_X7_breaks_62  Q n9 x1 x2 x3 y0 0 0 S
theorem k_X7_breaks_54 (hT : xT X = tb1) (hl : l.stackTraces = false) (C : Cn X k0 p l R s m meth c cX7_breaks RX7 8 7 103) (hr : meth.sig.returnType = (some .int)) (hnm : meth.name = yX7_breaks.name) (htab : ∀ x ∈ c.exceptionTable.toList, False)  {x1 : Int32} {x2 : Int32} {x3 : Int32} {y0 : Int32} {S : Sg} (h : w_X7_breaks_54  Qa x1 x2 x3 y0 S) : V X p l e R s m args below meth c 8 (QM X below args s S0 ad0 rvI Qa) S0 ad0 S 54 [(0, Value.ref (enc 0 0)), (1, Value.int x1), (2, Value.ref (enc 6 (nt x2))), (3, Value.int x3)] [Value.int y0] := by
  refine V_istore (pc := 54) C dX7_breaks_54 (by decide) rfl ?_
  refine V_iconst (pc := 56) C (v := 0) dX7_breaks_56 rfl ?_
  refine V_istore (pc := 57) C dX7_breaks_57 (by decide) rfl ?_
  refine V_iconst (pc := 59) C (v := 0) dX7_breaks_59 rfl ?_
  refine V_istore (pc := 60) C dX7_breaks_60 (by decide) rfl ?_
  refine V_sub [3, 4, 5, 6, 2, 1, 0] rfl ?_
  obtain ⟨n9, h⟩ := h
  exact k_X7_breaks_62 hT hl C hr hnm htab  n9 h
def w_X7_breaks (a1 : Int32) (S : Sg) (Q : Nat → Int32 → Sg → Prop) : Prop := (w_X7_showAt a1 S (fun k15 v14 S13 => (k15 = 0 → (((S13.1 56 (nt v14)) = 1 → (∀ v16, v16 = (S13.1 6 0) - (S13.1 53 (nt v14)) → (¬ S13.1 51 (nt v14) < 0 ∧ (((2 * (S13.1 31 (nt (S13.1 51 (nt v14))))) ≤ (3 * v16) → w_X7_breaks_54  Q a1 v14 v16 0 S13) ∧ (¬ (2 * (S13.1 31 (nt (S13.1 51 (nt v14))))) ≤ (3 * v16) → w_X7_breaks_54  Q a1 v14 v16 1 S13))))) ∧ (¬ (S13.1 56 (nt v14)) = 1 → (S13.2.1 + 1 ≤ nB1 ∧ S13.2.2 + 6 ≤ nB2 ∧ Q 2 0 (tS S13))))) ∧ (¬ k15 = 0 → Q k15 0 S13)))
theorem ct_X7_breaks (hT : xT X = tb1) (hl : l.stackTraces = false) {a1 : Int32} {S : Sg} (h : w_X7_breaks a1 S Qa) : CT X k0 l yX7_breaks cX7_breaks 8 (some .int) 7 103 [Value.ref (enc 0 0), Value.int a1] rvI S Qa :=
  CT_ofV (own := RX7) (by decide +kernel) (le8 rfl) rfl hl fun p e R s m args below meth c ad0 C hr hnm htab => by
    refine V_aload_n (pc := 0) C dX7_breaks_0 rfl 0 rfl ?_
    refine V_iload_n (pc := 1) C dX7_breaks_1 rfl 1 rfl ?_
    refine V_callV (pc := 2) C (ct_X7_showAt hT hl h) g536 g538 g11 g539 g33 ⟨by decide, by decide, pl_X7_showAt⟩ (enc_ne63 (by decide)) (ct_obj hT rfl (by decide)) rfl ⟨by decide, by decide⟩ (rest := []) rfl (le8 rfl) dX7_breaks_2 (fun v14 S13 h => ?_) (fun k9 S9 hk h => VX_out C htab hk (h.2 (by omega)))
    replace h := h.1 rfl
    refine V_st (st' := [Value.ref (enc 6 (nt v14))]) rfl ?_
    refine V_astore_n (pc := 5) C dX7_breaks_5 rfl (by decide) rfl ?_
    refine V_aload_n (pc := 6) C dX7_breaks_6 rfl 0 rfl ?_
    refine V_getI (pc := 7) C hT f1_X5_6 g511 dX7_breaks_7 ?_
    refine V_iconst (pc := 10) C (v := 1) dX7_breaks_10 rfl ?_
    refine V_icmp_eq (pc := 11) (tgt := 24) C dX7_breaks_11 (by decide) h (fun h => ?_) (fun h => ?_)
    · refine V_aload_n (pc := 24) C dX7_breaks_24 rfl 1 rfl ?_
      refine V_getI (pc := 25) C hT f1_X7_6 g96 dX7_breaks_25 ?_
      refine V_aload_n (pc := 28) C dX7_breaks_28 rfl 0 rfl ?_
      refine V_getI (pc := 29) C hT f1_X5_3 g505 dX7_breaks_29 ?_
      refine V_isub (pc := 32) C dX7_breaks_32 ?_
      refine V_nI fun v16 e9 => ?_
      replace h := h v16 e9; clear e9
      refine V_istore_n (pc := 33) C dX7_breaks_33 rfl (by decide) rfl ?_
      refine V_iconst (pc := 34) C (v := 3) dX7_breaks_34 rfl ?_
      refine V_iload_n (pc := 35) C dX7_breaks_35 rfl 0 rfl ?_
      refine V_imul (pc := 36) C dX7_breaks_36 ?_
      refine V_iconst (pc := 37) C (v := 2) dX7_breaks_37 rfl ?_
      refine V_aload_n (pc := 38) C dX7_breaks_38 rfl 1 rfl ?_
      refine V_getR (pc := 39) C hT f1_X5_1 (by decide) g501 dX7_breaks_39 h (fun h => ?_)
      refine V_getI (pc := 42) C hT f1_X0_1 g362 dX7_breaks_42 ?_
      refine V_imul (pc := 45) C dX7_breaks_45 ?_
      refine V_icmp_ge (pc := 46) (tgt := 53) C dX7_breaks_46 (by decide) h (fun h => ?_) (fun h => ?_)
      · refine V_iconst (pc := 53) C (v := 0) dX7_breaks_53 rfl ?_
        refine V_sub [2, 3, 1, 0] rfl ?_
        exact k_X7_breaks_54 hT hl C hr hnm htab  h
      · refine V_iconst (pc := 49) C (v := 1) dX7_breaks_49 rfl ?_
        refine V_goto (pc := 50) (tgt := 54) C dX7_breaks_50 (by decide) ?_
        refine V_sub [2, 3, 1, 0] rfl ?_
        exact k_X7_breaks_54 hT hl C hr hnm htab  h
    · exact V_throw (pc := 14) C htab (k9 := 2) (by decide) at_RX7_2 str_RX7_172 ⟨by decide, le8 rfl⟩ dX7_breaks_14 dX7_breaks_17 dX7_breaks_18 dX7_breaks_20 dX7_breaks_23 h
theorem pl_X7_nearerAhead : (parseMethodDescriptor yX7_nearerAhead.desc).map (fun d => d.parameters.length) = some 3 := by decide +kernel
def w_X7_nearerAhead (a0 : Int32) (a1 : Int32) (a2 : Int32) (S : Sg) (Q : Nat → Int32 → Sg → Prop) : Prop := ((a2 ≤ a0 → Q 0 a1 S) ∧ (¬ a2 ≤ a0 → ((a1 ≤ a2 → Q 0 a1 S) ∧ (¬ a1 ≤ a2 → Q 0 a2 S))))
theorem ct_X7_nearerAhead (hT : xT X = tb1) (hl : l.stackTraces = false) {a0 : Int32} {a1 : Int32} {a2 : Int32} {S : Sg} (h : w_X7_nearerAhead a0 a1 a2 S Qa) : CT X k0 l yX7_nearerAhead cX7_nearerAhead 3 (some .int) 1 0 [Value.int a0, Value.int a1, Value.int a2] rvI S Qa :=
  CT_ofV (own := RX7) (by decide +kernel) (le8 rfl) rfl hl fun p e R s m args below meth c ad0 C hr hnm htab => by
    refine V_iload_n (pc := 0) C dX7_nearerAhead_0 rfl 2 rfl ?_
    refine V_iload_n (pc := 1) C dX7_nearerAhead_1 rfl 0 rfl ?_
    refine V_icmp_le (pc := 2) (tgt := 14) C dX7_nearerAhead_2 (by decide) h (fun h => ?_) (fun h => ?_)
    · refine V_iload_n (pc := 14) C dX7_nearerAhead_14 rfl 1 rfl ?_
      exact V_iret (pc := 15) C hr rfl h dX7_nearerAhead_15
    · refine V_iload_n (pc := 5) C dX7_nearerAhead_5 rfl 2 rfl ?_
      refine V_iload_n (pc := 6) C dX7_nearerAhead_6 rfl 1 rfl ?_
      refine V_icmp_ge (pc := 7) (tgt := 14) C dX7_nearerAhead_7 (by decide) h (fun h => ?_) (fun h => ?_)
      · refine V_iload_n (pc := 14) C dX7_nearerAhead_14 rfl 1 rfl ?_
        exact V_iret (pc := 15) C hr rfl h dX7_nearerAhead_15
      · refine V_iload_n (pc := 10) C dX7_nearerAhead_10 rfl 2 rfl ?_
        refine V_goto (pc := 11) (tgt := 15) C dX7_nearerAhead_11 (by decide) ?_
        exact V_iret (pc := 15) C hr rfl h dX7_nearerAhead_15
theorem pl_X7_nextChange : (parseMethodDescriptor yX7_nextChange.desc).map (fun d => d.parameters.length) = some 1 := by decide +kernel
def w_X7_nextChange_120 (k58 : Int32 → Int32 → Sg → Prop) (Q : Nat → Int32 → Sg → Prop) (x2 : Int32) (x3 : Int32) (S : Sg) : Prop := k58 x2 (x3 + 1) S
theorem k_X7_nextChange_120 (hT : xT X = tb1) (hl : l.stackTraces = false) (C : Cn X k0 p l R s m meth c cX7_nextChange RX7 5 4 81) (hr : meth.sig.returnType = (some .int)) (hnm : meth.name = yX7_nextChange.name) (htab : ∀ x ∈ c.exceptionTable.toList, False) {k58 : Int32 → Int32 → Sg → Prop} (hk58 : ∀ {x2 : Int32} {x3 : Int32} {S : Sg}, k58 x2 x3 S → V X p l e R s m args below meth c 5 (QM X below args s S0 ad0 rvI Qa) S0 ad0 S 58 [(0, Value.ref (enc 0 0)), (2, Value.int x2), (3, Value.int x3)] []) {x2 : Int32} {x3 : Int32} {S : Sg} (h : w_X7_nextChange_120 k58 Qa x2 x3 S) : V X p l e R s m args below meth c 5 (QM X below args s S0 ad0 rvI Qa) S0 ad0 S 120 [(0, Value.ref (enc 0 0)), (2, Value.int x2), (3, Value.int x3)] [] := by
  refine V_iinc (pc := 120) C (a := 2) (v := x3 + 1) dX7_nextChange_120 rfl rfl (by decide) rfl ?_
  refine V_goto (pc := 123) (tgt := 58) C dX7_nextChange_123 (by decide) ?_
  refine V_sub [1, 2, 0] rfl ?_
  exact hk58 h
def w_X7_nextChange_116 (k58 : Int32 → Int32 → Sg → Prop) (Q : Nat → Int32 → Sg → Prop) (x3 : Int32) (y0 : Int32) (y1 : Int32) (y2 : Int32) (S : Sg) : Prop := (w_X7_nearerAhead y2 y1 y0 S (fun k3 v2 S1 => (k3 = 0 → w_X7_nextChange_120 k58 Q v2 x3 S1) ∧ (¬ k3 = 0 → Q k3 0 S1)))
theorem k_X7_nextChange_116 (hT : xT X = tb1) (hl : l.stackTraces = false) (C : Cn X k0 p l R s m meth c cX7_nextChange RX7 5 4 81) (hr : meth.sig.returnType = (some .int)) (hnm : meth.name = yX7_nextChange.name) (htab : ∀ x ∈ c.exceptionTable.toList, False) {k58 : Int32 → Int32 → Sg → Prop} (hk58 : ∀ {x2 : Int32} {x3 : Int32} {S : Sg}, k58 x2 x3 S → V X p l e R s m args below meth c 5 (QM X below args s S0 ad0 rvI Qa) S0 ad0 S 58 [(0, Value.ref (enc 0 0)), (2, Value.int x2), (3, Value.int x3)] []) {x3 : Int32} {y0 : Int32} {y1 : Int32} {y2 : Int32} {S : Sg} (h : w_X7_nextChange_116 k58 Qa x3 y0 y1 y2 S) : V X p l e R s m args below meth c 5 (QM X below args s S0 ad0 rvI Qa) S0 ad0 S 116 [(0, Value.ref (enc 0 0)), (3, Value.int x3)] [Value.int y0, Value.int y1, Value.int y2] := by
  refine V_callS (pc := 116) C (ct_X7_nearerAhead hT hl h) g573 g574 g575 g33 ⟨by decide, by decide, pl_X7_nearerAhead⟩ ⟨by decide, by decide⟩ (rest := []) rfl (le8 rfl) dX7_nextChange_116 (fun v2 S1 h => ?_) (fun k9 S9 hk h => VX_out C htab hk (h.2 (by omega)))
  replace h := h.1 rfl
  refine V_st (st' := [Value.int v2]) rfl ?_
  refine V_istore_n (pc := 119) C dX7_nextChange_119 rfl (by decide) rfl ?_
  refine V_sub [1, 0, 2] rfl ?_
  exact k_X7_nextChange_120 hT hl C hr hnm htab (fun h => hk58 h) h
def w_X7_nextChange_58  (Q : Nat → Int32 → Sg → Prop) : Nat → Int32 → Int32 → Sg → Prop
  | 0, _, _, _ => False
  | n + 1, x2, x3, S => (w_size 3 S (fun k6 v5 S4 => (k6 = 0 → ((v5 ≤ x3 → Q 0 x2 S4) ∧ (¬ v5 ≤ x3 → (w_get 3 x3 S4 (fun k9 v8 S7 => (k9 = 0 → (w_X5_isToCome v8 S7 (fun k12 v11 S10 => (k12 = 0 → ((v11 = 0 → w_X7_nextChange_120 (fun x2 x3 S => w_X7_nextChange_58  Q n x2 x3 S) Q x2 x3 S10) ∧ (¬ v11 = 0 → (((S10.1 56 (nt v8)) = 0 → w_X7_nextChange_116 (fun x2 x3 S => w_X7_nextChange_58  Q n x2 x3 S) Q x3 (S10.1 53 (nt v8)) x2 (S10.1 6 0) S10) ∧ (¬ (S10.1 56 (nt v8)) = 0 → (w_X5_end v8 S10 (fun k15 v14 S13 => (k15 = 0 → w_X7_nextChange_116 (fun x2 x3 S => w_X7_nextChange_58  Q n x2 x3 S) Q x3 v14 x2 (S10.1 6 0) S13) ∧ (¬ k15 = 0 → Q k15 0 S13)))))))) ∧ (¬ k12 = 0 → Q k12 0 S10)))) ∧ (¬ k9 = 0 → Q k9 0 S7)))))) ∧ (¬ k6 = 0 → Q k6 0 S4)))
theorem k_X7_nextChange_58 (hT : xT X = tb1) (hl : l.stackTraces = false) (C : Cn X k0 p l R s m meth c cX7_nextChange RX7 5 4 81) (hr : meth.sig.returnType = (some .int)) (hnm : meth.name = yX7_nextChange.name) (htab : ∀ x ∈ c.exceptionTable.toList, False)  : ∀ n {x2 : Int32} {x3 : Int32} {S : Sg}, w_X7_nextChange_58  Qa n x2 x3 S → V X p l e R s m args below meth c 5 (QM X below args s S0 ad0 rvI Qa) S0 ad0 S 58 [(0, Value.ref (enc 0 0)), (2, Value.int x2), (3, Value.int x3)] [] := by
  intro n
  induction n with
  | zero => intro x2 x3 S h; exact h.elim
  | succ n ih =>
    intro x2 x3 S h
    refine V_iload_n (pc := 58) C dX7_nextChange_58 rfl 2 rfl ?_
    refine V_aload_n (pc := 59) C dX7_nextChange_59 rfl 0 rfl ?_
    refine V_getF (pc := 60) C hT f1_X7_3 g93 dX7_nextChange_60 ?_
    refine V_callV (pc := 63) C (ct_size hT hl h) g200 g201 g202 g203 g36 ⟨by decide, by decide, pl_Jx4a65c_size_8abf5⟩ (enc_ne63 (by decide)) (ct_obj hT rfl (by decide)) rfl ⟨by decide, by decide⟩ (rest := [Value.int x3]) rfl (le8 rfl) dX7_nextChange_63 (fun v5 S4 h => ?_) (fun k9 S9 hk h => VX_out C htab hk (h.2 (by omega)))
    replace h := h.1 rfl
    refine V_st (st' := [Value.int v5, Value.int x3]) rfl ?_
    refine V_icmp_ge (pc := 66) (tgt := 126) C dX7_nextChange_66 (by decide) h (fun h => ?_) (fun h => ?_)
    · refine V_iload_n (pc := 126) C dX7_nextChange_126 rfl 1 rfl ?_
      exact V_iret (pc := 127) C hr rfl h dX7_nextChange_127
    · refine V_aload_n (pc := 69) C dX7_nextChange_69 rfl 0 rfl ?_
      refine V_getF (pc := 70) C hT f1_X7_3 g93 dX7_nextChange_70 ?_
      refine V_iload_n (pc := 73) C dX7_nextChange_73 rfl 2 rfl ?_
      refine V_callV (pc := 74) C (ct_get hT hl (by decide) h) g332 g333 g334 g335 g36 ⟨by decide, by decide, pl_Jx4a65c_get_915e3⟩ (enc_ne63 (by decide)) (ct_obj hT rfl (by decide)) rfl ⟨by decide, by decide⟩ (rest := []) rfl (le8 rfl) dX7_nextChange_74 (fun v8 S7 h => ?_) (fun k9 S9 hk h => VX_out C htab hk (h.2 (by omega)))
      replace h := h.1 rfl
      refine V_st (st' := [Value.ref (enc 6 (nt v8))]) rfl ?_
      refine V_cast (pc := 77) C hT (by decide) rfl rfl g451 dX7_nextChange_77 ?_
      refine V_astore (pc := 80) C dX7_nextChange_80 (by decide) rfl ?_
      refine V_aload (pc := 82) C dX7_nextChange_82 0 rfl ?_
      refine V_callV (pc := 84) C (ct_X5_isToCome hT hl h) g452 g453 g454 g455 g52 ⟨by decide, by decide, pl_X5_isToCome⟩ (enc_ne63 (by decide)) (ct_obj hT rfl (by decide)) rfl ⟨by decide, by decide⟩ (rest := []) rfl (le8 rfl) dX7_nextChange_84 (fun v11 S10 h => ?_) (fun k9 S9 hk h => VX_out C htab hk (h.2 (by omega)))
      replace h := h.1 rfl
      refine V_st (st' := [Value.int v11]) rfl ?_
      refine V_if_eq (pc := 87) (tgt := 120) C dX7_nextChange_87 (by decide) h (fun h => ?_) (fun h => ?_)
      · refine V_sub [1, 2, 3] rfl ?_
        exact k_X7_nextChange_120 hT hl C hr hnm htab (fun h => ih h) h
      · refine V_aload_n (pc := 90) C dX7_nextChange_90 rfl 1 rfl ?_
        refine V_getI (pc := 91) C hT f1_X7_6 g96 dX7_nextChange_91 ?_
        refine V_iload_n (pc := 94) C dX7_nextChange_94 rfl 2 rfl ?_
        refine V_aload (pc := 95) C dX7_nextChange_95 0 rfl ?_
        refine V_getI (pc := 97) C hT f1_X5_6 g511 dX7_nextChange_97 ?_
        refine V_if_ne (pc := 100) (tgt := 111) C dX7_nextChange_100 (by decide) h (fun h => ?_) (fun h => ?_)
        · refine V_aload (pc := 111) C dX7_nextChange_111 0 rfl ?_
          refine V_callV (pc := 113) C (ct_X5_end hT hl h) g456 g457 g458 g459 g52 ⟨by decide, by decide, pl_X5_end⟩ (enc_ne63 (by decide)) (ct_obj hT rfl (by decide)) rfl ⟨by decide, by decide⟩ (rest := [Value.int x2, Value.int (S10.1 6 0)]) rfl (le8 rfl) dX7_nextChange_113 (fun v14 S13 h => ?_) (fun k9 S9 hk h => VX_out C htab hk (h.2 (by omega)))
          replace h := h.1 rfl
          refine V_st (st' := [Value.int v14, Value.int x2, Value.int (S10.1 6 0)]) rfl ?_
          refine V_sub [1, 3] rfl ?_
          exact k_X7_nextChange_116 hT hl C hr hnm htab (fun h => ih h) h
        · refine V_aload (pc := 103) C dX7_nextChange_103 0 rfl ?_
          refine V_getI (pc := 105) C hT f1_X5_3 g505 dX7_nextChange_105 ?_
          refine V_goto (pc := 108) (tgt := 116) C dX7_nextChange_108 (by decide) ?_
          refine V_sub [1, 3] rfl ?_
          exact k_X7_nextChange_116 hT hl C hr hnm htab (fun h => ih h) h
def w_X7_nextChange_50 (k4 : Int32 → Int32 → Sg → Prop) (Q : Nat → Int32 → Sg → Prop) (x2 : Int32) (x3 : Int32) (S : Sg) : Prop := k4 x2 (x3 + 1) S
theorem k_X7_nextChange_50 (hT : xT X = tb1) (hl : l.stackTraces = false) (C : Cn X k0 p l R s m meth c cX7_nextChange RX7 5 4 81) (hr : meth.sig.returnType = (some .int)) (hnm : meth.name = yX7_nextChange.name) (htab : ∀ x ∈ c.exceptionTable.toList, False) {k4 : Int32 → Int32 → Sg → Prop} (hk4 : ∀ {x2 : Int32} {x3 : Int32} {S : Sg}, k4 x2 x3 S → V X p l e R s m args below meth c 5 (QM X below args s S0 ad0 rvI Qa) S0 ad0 S 4 [(0, Value.ref (enc 0 0)), (2, Value.int x2), (3, Value.int x3)] []) {x2 : Int32} {x3 : Int32} {S : Sg} (h : w_X7_nextChange_50 k4 Qa x2 x3 S) : V X p l e R s m args below meth c 5 (QM X below args s S0 ad0 rvI Qa) S0 ad0 S 50 [(0, Value.ref (enc 0 0)), (2, Value.int x2), (3, Value.int x3)] [] := by
  refine V_iinc (pc := 50) C (a := 2) (v := x3 + 1) dX7_nextChange_50 rfl rfl (by decide) rfl ?_
  refine V_goto (pc := 53) (tgt := 4) C dX7_nextChange_53 (by decide) ?_
  refine V_sub [1, 2, 0] rfl ?_
  exact hk4 h
def w_X7_nextChange_4  (Q : Nat → Int32 → Sg → Prop) : Nat → Int32 → Int32 → Sg → Prop
  | 0, _, _, _ => False
  | n + 1, x2, x3, S => (w_size 4 S (fun k18 v17 S16 => (k18 = 0 → ((v17 ≤ x3 → ∃ n9, w_X7_nextChange_58  Q n9 x2 0 S16) ∧ (¬ v17 ≤ x3 → (w_get 4 x3 S16 (fun k21 v20 S19 => (k21 = 0 → (((S19.1 63 (nt v20)) = 0 → (w_X7_nearerAhead (S19.1 6 0) x2 (S19.1 62 (nt v20)) S19 (fun k24 v23 S22 => (k24 = 0 → w_X7_nextChange_50 (fun x2 x3 S => w_X7_nextChange_4  Q n x2 x3 S) Q v23 x3 S22) ∧ (¬ k24 = 0 → Q k24 0 S22)))) ∧ (¬ (S19.1 63 (nt v20)) = 0 → w_X7_nextChange_50 (fun x2 x3 S => w_X7_nextChange_4  Q n x2 x3 S) Q x2 x3 S19))) ∧ (¬ k21 = 0 → Q k21 0 S19)))))) ∧ (¬ k18 = 0 → Q k18 0 S16)))
theorem k_X7_nextChange_4 (hT : xT X = tb1) (hl : l.stackTraces = false) (C : Cn X k0 p l R s m meth c cX7_nextChange RX7 5 4 81) (hr : meth.sig.returnType = (some .int)) (hnm : meth.name = yX7_nextChange.name) (htab : ∀ x ∈ c.exceptionTable.toList, False)  : ∀ n {x2 : Int32} {x3 : Int32} {S : Sg}, w_X7_nextChange_4  Qa n x2 x3 S → V X p l e R s m args below meth c 5 (QM X below args s S0 ad0 rvI Qa) S0 ad0 S 4 [(0, Value.ref (enc 0 0)), (2, Value.int x2), (3, Value.int x3)] [] := by
  intro n
  induction n with
  | zero => intro x2 x3 S h; exact h.elim
  | succ n ih =>
    intro x2 x3 S h
    refine V_iload_n (pc := 4) C dX7_nextChange_4 rfl 2 rfl ?_
    refine V_aload_n (pc := 5) C dX7_nextChange_5 rfl 0 rfl ?_
    refine V_getF (pc := 6) C hT f1_X7_4 g94 dX7_nextChange_6 ?_
    refine V_callV (pc := 9) C (ct_size hT hl h) g200 g201 g202 g203 g36 ⟨by decide, by decide, pl_Jx4a65c_size_8abf5⟩ (enc_ne63 (by decide)) (ct_obj hT rfl (by decide)) rfl ⟨by decide, by decide⟩ (rest := [Value.int x3]) rfl (le8 rfl) dX7_nextChange_9 (fun v17 S16 h => ?_) (fun k9 S9 hk h => VX_out C htab hk (h.2 (by omega)))
    replace h := h.1 rfl
    refine V_st (st' := [Value.int v17, Value.int x3]) rfl ?_
    refine V_icmp_ge (pc := 12) (tgt := 56) C dX7_nextChange_12 (by decide) h (fun h => ?_) (fun h => ?_)
    · refine V_iconst (pc := 56) C (v := 0) dX7_nextChange_56 rfl ?_
      refine V_istore_n (pc := 57) C dX7_nextChange_57 rfl (by decide) rfl ?_
      refine V_sub [1, 2, 0] rfl ?_
      obtain ⟨n9, h⟩ := h
      exact k_X7_nextChange_58 hT hl C hr hnm htab  n9 h
    · refine V_aload_n (pc := 15) C dX7_nextChange_15 rfl 0 rfl ?_
      refine V_getF (pc := 16) C hT f1_X7_4 g94 dX7_nextChange_16 ?_
      refine V_iload_n (pc := 19) C dX7_nextChange_19 rfl 2 rfl ?_
      refine V_callV (pc := 20) C (ct_get hT hl (by decide) h) g332 g333 g334 g335 g36 ⟨by decide, by decide, pl_Jx4a65c_get_915e3⟩ (enc_ne63 (by decide)) (ct_obj hT rfl (by decide)) rfl ⟨by decide, by decide⟩ (rest := []) rfl (le8 rfl) dX7_nextChange_20 (fun v20 S19 h => ?_) (fun k9 S9 hk h => VX_out C htab hk (h.2 (by omega)))
      replace h := h.1 rfl
      refine V_st (st' := [Value.ref (enc 7 (nt v20))]) rfl ?_
      refine V_cast (pc := 23) C hT (by decide) rfl rfl g550 dX7_nextChange_23 ?_
      refine V_astore (pc := 26) C dX7_nextChange_26 (by decide) rfl ?_
      refine V_aload (pc := 28) C dX7_nextChange_28 0 rfl ?_
      refine V_getI (pc := 30) C hT f1_X2_3 g661 dX7_nextChange_30 ?_
      refine V_if_ne (pc := 33) (tgt := 50) C dX7_nextChange_33 (by decide) h (fun h => ?_) (fun h => ?_)
      · refine V_sub [1, 2, 3] rfl ?_
        exact k_X7_nextChange_50 hT hl C hr hnm htab (fun h => ih h) h
      · refine V_aload_n (pc := 36) C dX7_nextChange_36 rfl 1 rfl ?_
        refine V_getI (pc := 37) C hT f1_X7_6 g96 dX7_nextChange_37 ?_
        refine V_iload_n (pc := 40) C dX7_nextChange_40 rfl 2 rfl ?_
        refine V_aload (pc := 41) C dX7_nextChange_41 0 rfl ?_
        refine V_getI (pc := 43) C hT f1_X2_2 g659 dX7_nextChange_43 ?_
        refine V_callS (pc := 46) C (ct_X7_nearerAhead hT hl h) g573 g574 g575 g33 ⟨by decide, by decide, pl_X7_nearerAhead⟩ ⟨by decide, by decide⟩ (rest := []) rfl (le8 rfl) dX7_nextChange_46 (fun v23 S22 h => ?_) (fun k9 S9 hk h => VX_out C htab hk (h.2 (by omega)))
        replace h := h.1 rfl
        refine V_st (st' := [Value.int v23]) rfl ?_
        refine V_istore_n (pc := 49) C dX7_nextChange_49 rfl (by decide) rfl ?_
        refine V_sub [2, 0, 3] rfl ?_
        exact k_X7_nextChange_50 hT hl C hr hnm htab (fun h => ih h) h
def w_X7_nextChange (a1 : Int32) (S : Sg) (Q : Nat → Int32 → Sg → Prop) : Prop := ∃ n9, w_X7_nextChange_4  Q n9 a1 0 S
theorem ct_X7_nextChange (hT : xT X = tb1) (hl : l.stackTraces = false) {a1 : Int32} {S : Sg} (h : w_X7_nextChange a1 S Qa) : CT X k0 l yX7_nextChange cX7_nextChange 5 (some .int) 4 81 [Value.ref (enc 0 0), Value.int a1] rvI S Qa :=
  CT_ofV (own := RX7) (by decide +kernel) (le8 rfl) rfl hl fun p e R s m args below meth c ad0 C hr hnm htab => by
    refine V_iload_n (pc := 0) C dX7_nextChange_0 rfl 1 rfl ?_
    refine V_istore_n (pc := 1) C dX7_nextChange_1 rfl (by decide) rfl ?_
    refine V_iconst (pc := 2) C (v := 0) dX7_nextChange_2 rfl ?_
    refine V_istore_n (pc := 3) C dX7_nextChange_3 rfl (by decide) rfl ?_
    refine V_sub [2, 1, 0] rfl ?_
    obtain ⟨n9, h⟩ := h
    exact k_X7_nextChange_4 hT hl C hr hnm htab  n9 h
theorem pl_X7_addTicket : (parseMethodDescriptor yX7_addTicket.desc).map (fun d => d.parameters.length) = some 3 := by decide +kernel
def w_X7_addTicket (a1 : Int32) (a2 : Int32) (a3 : Int32) (S : Sg) (Q : Nat → Int32 → Sg → Prop) : Prop := (w_size 5 S (fun k3 v2 S1 => (k3 = 0 → (w_X5_priceFor a1 a3 S1 (fun k6 v5 S4 => (k6 = 0 → ((S4.2.1 + 1 ≤ nB1 ∧ S4.2.2 + 5 ≤ nB2) ∧ (∀ v8, v8 = S4.1 10 8 → ∀ S7, S7 = nu S4 8 5 fdTicket → (w_X6_init v8 a1 a2 a3 v5 S7 (fun k11 v10 S9 => (k11 = 0 → (w_add 5 v8 S9 (fun k14 v13 S12 => (k14 = 0 → (¬ S12.1 54 (nt a1) < 0 ∧ (vp_in a2 (nt (S12.1 58 (nt (S12.1 54 (nt a1))))) ∧ (∀ S15, S15 = su S12 (1000 + 2 * (nt (S12.1 54 (nt a1)))) (nt a2) v2 → (∀ S16, S16 = su S15 57 (nt a1) ((S15.1 57 (nt a1)) + v5) → Q 0 v2 S16))))) ∧ (¬ k14 = 0 → Q k14 0 S12)))) ∧ (¬ k11 = 0 → Q k11 0 S9)))))) ∧ (¬ k6 = 0 → Q k6 0 S4)))) ∧ (¬ k3 = 0 → Q k3 0 S1)))
theorem ct_X7_addTicket (hT : xT X = tb1) (hl : l.stackTraces = false) {a1 : Int32} {a2 : Int32} {a3 : Int32} {S : Sg} (h : w_X7_addTicket a1 a2 a3 S Qa) : CT X k0 l yX7_addTicket cX7_addTicket 6 (some .int) 8 181 [Value.ref (enc 0 0), Value.ref (enc 6 (nt a1)), Value.int a2, Value.int a3] rvI S Qa :=
  CT_ofV (own := RX7) (by decide +kernel) (le8 rfl) rfl hl fun p e R s m args below meth c ad0 C hr hnm htab => by
    refine V_aload_n (pc := 0) C dX7_addTicket_0 rfl 0 rfl ?_
    refine V_getF (pc := 1) C hT f1_X7_5 g95 dX7_addTicket_1 ?_
    refine V_callV (pc := 4) C (ct_size hT hl h) g200 g201 g202 g203 g36 ⟨by decide, by decide, pl_Jx4a65c_size_8abf5⟩ (enc_ne63 (by decide)) (ct_obj hT rfl (by decide)) rfl ⟨by decide, by decide⟩ (rest := []) rfl (le8 rfl) dX7_addTicket_4 (fun v2 S1 h => ?_) (fun k9 S9 hk h => VX_out C htab hk (h.2 (by omega)))
    replace h := h.1 rfl
    refine V_st (st' := [Value.int v2]) rfl ?_
    refine V_istore (pc := 7) C dX7_addTicket_7 (by decide) rfl ?_
    refine V_aload_n (pc := 9) C dX7_addTicket_9 rfl 2 rfl ?_
    refine V_iload_n (pc := 10) C dX7_addTicket_10 rfl 4 rfl ?_
    refine V_callV (pc := 11) C (ct_X5_priceFor hT hl h) g597 g598 g599 g600 g52 ⟨by decide, by decide, pl_X5_priceFor⟩ (enc_ne63 (by decide)) (ct_obj hT rfl (by decide)) rfl ⟨by decide, by decide⟩ (rest := []) rfl (le8 rfl) dX7_addTicket_11 (fun v5 S4 h => ?_) (fun k9 S9 hk h => VX_out C htab hk (h.2 (by omega)))
    replace h := h.1 rfl
    refine V_st (st' := [Value.int v5]) rfl ?_
    refine V_istore (pc := 14) C dX7_addTicket_14 (by decide) rfl ?_
    refine V_aload_n (pc := 16) C dX7_addTicket_16 rfl 2 rfl ?_
    refine V_getF (pc := 17) C hT f1_X7_5 g95 dX7_addTicket_17 ?_
    refine V_newO (pc := 20) (k := 8) (fds := fdTicket) C hT tb1_g CF_X6 rfl (by decide) (by decide +kernel) (by decide +kernel) rfl g545 g601 g54 dX7_addTicket_20 h (fun h => V_nR fun v8 e8 => V_nx fun S7 e9 => ?_)
    replace h := h v8 e8 S7 e9; clear e8 e9
    refine V_dup (pc := 23) C dX7_addTicket_23 rfl ?_
    refine V_aload_n (pc := 24) C dX7_addTicket_24 rfl 3 rfl ?_
    refine V_iload_n (pc := 25) C dX7_addTicket_25 rfl 4 rfl ?_
    refine V_iload_n (pc := 26) C dX7_addTicket_26 rfl 5 rfl ?_
    refine V_iload (pc := 27) C dX7_addTicket_27 0 rfl ?_
    refine V_callI (pc := 29) C (ct_X6_init hT hl h) g602 g603 g604 g54 rfl ⟨by decide, by decide, pl_X6_init⟩ ⟨by decide, by decide⟩ (rest := [Value.ref (enc 8 (nt v8)), Value.ref (enc 1 5)]) rfl (le8 rfl) dX7_addTicket_29 (fun v10 S9 h => ?_) (fun k9 S9 hk h => VX_out C htab hk (h.2 (by omega)))
    replace h := h.1 rfl
    refine V_st (st' := [Value.ref (enc 8 (nt v8)), Value.ref (enc 1 5)]) rfl ?_
    refine V_callV (pc := 32) C (ct_add hT hl (by decide) h) g249 g250 g251 g252 g36 ⟨by decide, by decide, pl_Jx4a65c_add_9ea2d⟩ (enc_ne63 (by decide)) (ct_obj hT rfl (by decide)) rfl ⟨by decide, by decide⟩ (rest := []) rfl (le8 rfl) dX7_addTicket_32 (fun v13 S12 h => ?_) (fun k9 S9 hk h => VX_out C htab hk (h.2 (by omega)))
    replace h := h.1 rfl
    refine V_st (st' := [Value.int v13]) rfl ?_
    refine V_pop (pc := 35) C dX7_addTicket_35 rfl ?_
    refine V_aload_n (pc := 36) C dX7_addTicket_36 rfl 3 rfl ?_
    refine V_getR (pc := 37) C hT f1_X5_4 (by decide) g507 dX7_addTicket_37 h (fun h => ?_)
    refine V_iload_n (pc := 40) C dX7_addTicket_40 rfl 4 rfl ?_
    refine V_iload (pc := 41) C dX7_addTicket_41 1 rfl ?_
    refine V_pst (pc := 43) C hT tb1_arr h dX7_addTicket_43 (fun h => V_nx fun S15 e9 => ?_)
    replace h := h S15 e9; clear e9
    refine V_aload_n (pc := 44) C dX7_addTicket_44 rfl 3 rfl ?_
    refine V_dup (pc := 45) C dX7_addTicket_45 rfl ?_
    refine V_getI (pc := 46) C hT f1_X5_7 g514 dX7_addTicket_46 ?_
    refine V_iload (pc := 49) C dX7_addTicket_49 0 rfl ?_
    refine V_iadd (pc := 51) C dX7_addTicket_51 ?_
    refine V_putI (pc := 52) C hT tb1_ok f1_X5_7 (by unfold lc; decide) g514 (Or.inl rfl) (Or.inl rfl) dX7_addTicket_52 (V_nx fun S16 e9 => ?_)
    replace h := h S16 e9; clear e9
    refine V_iload (pc := 55) C dX7_addTicket_55 1 rfl ?_
    exact V_iret (pc := 57) C hr rfl h dX7_addTicket_57
theorem pl_X7_freePlace : (parseMethodDescriptor yX7_freePlace.desc).map (fun d => d.parameters.length) = some 2 := by decide +kernel
def w_X7_freePlace (a1 : Int32) (a2 : Int32) (S : Sg) (Q : Nat → Int32 → Sg → Prop) : Prop := (¬ S.1 54 (nt a1) < 0 ∧ (vp_in a2 (nt (S.1 58 (nt (S.1 54 (nt a1))))) ∧ (∀ S1, S1 = su S (1000 + 2 * (nt (S.1 54 (nt a1)))) (nt a2) (-1) → (¬ S1.1 55 (nt a1) < 0 ∧ (((S1.1 82 (nt (S1.1 55 (nt a1)))) = 0 → Q 0 (-1) S1) ∧ (¬ (S1.1 82 (nt (S1.1 55 (nt a1)))) = 0 → (w_size 5 S1 (fun k4 v3 S2 => (k4 = 0 → ((v3 < 400 → (¬ S2.1 55 (nt a1) < 0 ∧ (w_X4_takeFirst (S2.1 55 (nt a1)) S2 (fun k7 v6 S5 => (k7 = 0 → (w_X7_addTicket a1 a2 v6 S5 (fun k10 v9 S8 => (k10 = 0 → Q 0 v9 S8) ∧ (¬ k10 = 0 → Q k10 0 S8)))) ∧ (¬ k7 = 0 → Q k7 0 S5))))) ∧ (¬ v3 < 400 → Q 0 (-1) S2))) ∧ (¬ k4 = 0 → Q k4 0 S2)))))))))
theorem ct_X7_freePlace (hT : xT X = tb1) (hl : l.stackTraces = false) {a1 : Int32} {a2 : Int32} {S : Sg} (h : w_X7_freePlace a1 a2 S Qa) : CT X k0 l yX7_freePlace cX7_freePlace 3 (some .int) 9 206 [Value.ref (enc 0 0), Value.ref (enc 6 (nt a1)), Value.int a2] rvI S Qa :=
  CT_ofV (own := RX7) (by decide +kernel) (le8 rfl) rfl hl fun p e R s m args below meth c ad0 C hr hnm htab => by
    refine V_aload_n (pc := 0) C dX7_freePlace_0 rfl 1 rfl ?_
    refine V_getR (pc := 1) C hT f1_X5_4 (by decide) g507 dX7_freePlace_1 h (fun h => ?_)
    refine V_iload_n (pc := 4) C dX7_freePlace_4 rfl 2 rfl ?_
    refine V_iconst (pc := 5) C (v := (-1)) dX7_freePlace_5 rfl ?_
    refine V_pst (pc := 6) C hT tb1_arr h dX7_freePlace_6 (fun h => V_nx fun S1 e9 => ?_)
    replace h := h S1 e9; clear e9
    refine V_aload_n (pc := 7) C dX7_freePlace_7 rfl 1 rfl ?_
    refine V_getR (pc := 8) C hT f1_X5_5 (by decide) g509 dX7_freePlace_8 h (fun h => ?_)
    refine V_getI (pc := 11) C hT f1_X4_2 g486 dX7_freePlace_11 ?_
    refine V_if_eq (pc := 14) (tgt := 30) C dX7_freePlace_14 (by decide) h (fun h => ?_) (fun h => ?_)
    · refine V_iconst (pc := 30) C (v := (-1)) dX7_freePlace_30 rfl ?_
      exact V_iret (pc := 31) C hr rfl h dX7_freePlace_31
    · refine V_aload_n (pc := 17) C dX7_freePlace_17 rfl 0 rfl ?_
      refine V_getF (pc := 18) C hT f1_X7_5 g95 dX7_freePlace_18 ?_
      refine V_callV (pc := 21) C (ct_size hT hl h) g200 g201 g202 g203 g36 ⟨by decide, by decide, pl_Jx4a65c_size_8abf5⟩ (enc_ne63 (by decide)) (ct_obj hT rfl (by decide)) rfl ⟨by decide, by decide⟩ (rest := []) rfl (le8 rfl) dX7_freePlace_21 (fun v3 S2 h => ?_) (fun k9 S9 hk h => VX_out C htab hk (h.2 (by omega)))
      replace h := h.1 rfl
      refine V_st (st' := [Value.int v3]) rfl ?_
      refine V_sipush (pc := 24) C (v := 400) dX7_freePlace_24 rfl ?_
      refine V_icmp_lt (pc := 27) (tgt := 32) C dX7_freePlace_27 (by decide) h (fun h => ?_) (fun h => ?_)
      · refine V_aload_n (pc := 32) C dX7_freePlace_32 rfl 0 rfl ?_
        refine V_aload_n (pc := 33) C dX7_freePlace_33 rfl 1 rfl ?_
        refine V_iload_n (pc := 34) C dX7_freePlace_34 rfl 2 rfl ?_
        refine V_aload_n (pc := 35) C dX7_freePlace_35 rfl 1 rfl ?_
        refine V_getR (pc := 36) C hT f1_X5_5 (by decide) g509 dX7_freePlace_36 h (fun h => ?_)
        refine V_callV (pc := 39) C (ct_X4_takeFirst hT hl h) g588 g589 g590 g591 g53 ⟨by decide, by decide, pl_X4_takeFirst⟩ (enc_ne63 (by decide)) (ct_obj hT rfl (by decide)) rfl ⟨by decide, by decide⟩ (rest := [Value.int a2, Value.ref (enc 6 (nt a1)), Value.ref (enc 0 0)]) rfl (le8 rfl) dX7_freePlace_39 (fun v6 S5 h => ?_) (fun k9 S9 hk h => VX_out C htab hk (h.2 (by omega)))
        replace h := h.1 rfl
        refine V_st (st' := [Value.int v6, Value.int a2, Value.ref (enc 6 (nt a1)), Value.ref (enc 0 0)]) rfl ?_
        refine V_callV (pc := 42) C (ct_X7_addTicket hT hl h) g593 g595 g16 g596 g33 ⟨by decide, by decide, pl_X7_addTicket⟩ (enc_ne63 (by decide)) (ct_obj hT rfl (by decide)) rfl ⟨by decide, by decide⟩ (rest := []) rfl (le8 rfl) dX7_freePlace_42 (fun v9 S8 h => ?_) (fun k9 S9 hk h => VX_out C htab hk (h.2 (by omega)))
        replace h := h.1 rfl
        refine V_st (st' := [Value.int v9]) rfl ?_
        exact V_iret (pc := 45) C hr rfl h dX7_freePlace_45
      · refine V_iconst (pc := 30) C (v := (-1)) dX7_freePlace_30 rfl ?_
        exact V_iret (pc := 31) C hr rfl h dX7_freePlace_31
theorem pl_X7_endUnbought : (parseMethodDescriptor yX7_endUnbought.desc).map (fun d => d.parameters.length) = some 1 := by decide +kernel
def w_X7_endUnbought (a1 : Int32) (S : Sg) (Q : Nat → Int32 → Sg → Prop) : Prop := (∀ S1, S1 = su S 63 (nt a1) 1 → (¬ S1.1 60 (nt a1) < 0 ∧ (w_X7_freePlace (S1.1 60 (nt a1)) (S1.1 61 (nt a1)) S1 (fun k4 v3 S2 => (k4 = 0 → Q 0 v3 S2) ∧ (¬ k4 = 0 → Q k4 0 S2)))))
theorem ct_X7_endUnbought (hT : xT X = tb1) (hl : l.stackTraces = false) {a1 : Int32} {S : Sg} (h : w_X7_endUnbought a1 S Qa) : CT X k0 l yX7_endUnbought cX7_endUnbought 2 (some .int) 10 228 [Value.ref (enc 0 0), Value.ref (enc 7 (nt a1))] rvI S Qa :=
  CT_ofV (own := RX7) (by decide +kernel) (le8 rfl) rfl hl fun p e R s m args below meth c ad0 C hr hnm htab => by
    refine V_aload_n (pc := 0) C dX7_endUnbought_0 rfl 1 rfl ?_
    refine V_iconst (pc := 1) C (v := 1) dX7_endUnbought_1 rfl ?_
    refine V_putI (pc := 2) C hT tb1_ok f1_X2_3 (by unfold lc; decide) g661 (Or.inl rfl) (Or.inr ⟨rfl, by decide⟩) dX7_endUnbought_2 (V_nx fun S1 e9 => ?_)
    replace h := h S1 e9; clear e9
    refine V_aload_n (pc := 5) C dX7_endUnbought_5 rfl 0 rfl ?_
    refine V_aload_n (pc := 6) C dX7_endUnbought_6 rfl 1 rfl ?_
    refine V_getR (pc := 7) C hT f1_X2_0 (by decide) g655 dX7_endUnbought_7 h (fun h => ?_)
    refine V_aload_n (pc := 10) C dX7_endUnbought_10 rfl 1 rfl ?_
    refine V_getI (pc := 11) C hT f1_X2_1 g657 dX7_endUnbought_11 ?_
    refine V_callV (pc := 14) C (ct_X7_freePlace hT hl h) g584 g586 g15 g587 g33 ⟨by decide, by decide, pl_X7_freePlace⟩ (enc_ne63 (by decide)) (ct_obj hT rfl (by decide)) rfl ⟨by decide, by decide⟩ (rest := []) rfl (le8 rfl) dX7_endUnbought_14 (fun v3 S2 h => ?_) (fun k9 S9 hk h => VX_out C htab hk (h.2 (by omega)))
    replace h := h.1 rfl
    refine V_st (st' := [Value.int v3]) rfl ?_
    exact V_iret (pc := 17) C hr rfl h dX7_endUnbought_17
end KA
