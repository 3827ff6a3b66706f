section MB
variable {X : Cx} {p : Program} {l : Launch} {e : Env} {R : Room} {s : State} {m : MethodId} {args : Array Value} {below : List Frame} {meth : Method} {c : Code} {S0 : Sg} {ad0 : Nat → Nat} {Qa : Nat → Int32 → Sg → Prop}
theorem pl_X8_letGo : (parseMethodDescriptor yX8_letGo.desc).map (fun d => d.parameters.length) = some 1 := by decide +kernel
def w_X8_letGo_27  (Q : Nat → Int32 → Sg → Prop) (x1 : Int32) (y0 : Int32) (S : Sg) : Prop := (w_X8_fails y0 S (fun k3 v2 S1 => (k3 = 0 → ((v2 = 0 → (w_X8_ends x1 S1 (fun k6 v5 S4 => (k6 = 0 → Q 0 v5 S4) ∧ (¬ k6 = 0 → Q k6 0 S4)))) ∧ (¬ v2 = 0 → Q 0 0 S1))) ∧ (¬ k3 = 0 → Q k3 0 S1)))
theorem k_X8_letGo_27 (hT : xT X = tb1) (hl : l.stackTraces = false) (C : Cn X k0 p l R s m meth c cX8_letGo RX8 2 5 92) (hr : meth.sig.returnType = (some .int)) (hnm : meth.name = yX8_letGo.name) (htab : ∀ x ∈ c.exceptionTable.toList, False)  {x1 : Int32} {y0 : Int32} {S : Sg} (h : w_X8_letGo_27  Qa x1 y0 S) : V X p l e R s m args below meth c 2 (QM X below args s S0 ad0 rvI Qa) S0 ad0 S 27 [(0, Value.ref (enc 12 0)), (1, Value.int x1)] [Value.int y0, Value.ref (enc 12 0)] := by
  refine V_callV (pc := 27) C (ct_X8_fails hT hl h) g1120 g1122 g32 g1123 g64 ⟨by decide, by decide, pl_X8_fails⟩ (enc_ne63 (by decide)) (ct_obj hT rfl (by decide)) rfl ⟨by decide, by decide⟩ (rest := []) rfl (le8 rfl) dX8_letGo_27 (fun v2 S1 h => ?_) (fun k9 S9 hk h => VX_out C htab hk (h.2 (by omega)))
  replace h := h.1 rfl
  refine V_st (st' := [Value.int v2]) rfl ?_
  refine V_if_eq (pc := 30) (tgt := 35) C dX8_letGo_30 (by decide) h (fun h => ?_) (fun h => ?_)
  · refine V_aload_n (pc := 35) C dX8_letGo_35 rfl 0 rfl ?_
    refine V_iload_n (pc := 36) C dX8_letGo_36 rfl 1 rfl ?_
    refine V_callV (pc := 37) C (ct_X8_ends hT hl h) g1190 g1192 g40 g1193 g64 ⟨by decide, by decide, pl_X8_ends⟩ (enc_ne63 (by decide)) (ct_obj hT rfl (by decide)) rfl ⟨by decide, by decide⟩ (rest := []) rfl (le8 rfl) dX8_letGo_37 (fun v5 S4 h => ?_) (fun k9 S9 hk h => VX_out C htab hk (h.2 (by omega)))
    replace h := h.1 rfl
    refine V_st (st' := [Value.int v5]) rfl ?_
    exact V_iret (pc := 40) C hr rfl h dX8_letGo_40
  · refine V_iconst (pc := 33) C (v := 0) dX8_letGo_33 rfl ?_
    exact V_iret (pc := 34) C hr rfl h dX8_letGo_34
def w_X8_letGo (a1 : Int32) (S : Sg) (Q : Nat → Int32 → Sg → Prop) : Prop := (w_X8_isHold a1 S (fun k9 v8 S7 => (k9 = 0 → ((v8 = 0 → w_X8_letGo_27  Q a1 1 S7) ∧ (¬ v8 = 0 → (vp_in a1 100 ∧ (((S7.1 135 (nt a1)) = 0 → w_X8_letGo_27  Q a1 0 S7) ∧ (¬ (S7.1 135 (nt a1)) = 0 → w_X8_letGo_27  Q a1 2 S7)))))) ∧ (¬ k9 = 0 → Q k9 0 S7)))
theorem ct_X8_letGo (hT : xT X = tb1) (hl : l.stackTraces = false) {a1 : Int32} {S : Sg} (h : w_X8_letGo a1 S Qa) : CT X k0 l yX8_letGo cX8_letGo 2 (some .int) 5 92 [Value.ref (enc 12 0), Value.int a1] rvI S Qa :=
  CT_ofV (own := RX8) (by decide +kernel) (le8 rfl) rfl hl fun p e R s m args below meth c ad0 C hr hnm htab => by
    refine V_aload_n (pc := 0) C dX8_letGo_0 rfl 0 rfl ?_
    refine V_aload_n (pc := 1) C dX8_letGo_1 rfl 0 rfl ?_
    refine V_iload_n (pc := 2) C dX8_letGo_2 rfl 1 rfl ?_
    refine V_callV (pc := 3) C (ct_X8_isHold hT hl h) g1226 g1228 g47 g1229 g64 ⟨by decide, by decide, pl_X8_isHold⟩ (enc_ne63 (by decide)) (ct_obj hT rfl (by decide)) rfl ⟨by decide, by decide⟩ (rest := [Value.ref (enc 12 0)]) rfl (le8 rfl) dX8_letGo_3 (fun v8 S7 h => ?_) (fun k9 S9 hk h => VX_out C htab hk (h.2 (by omega)))
    replace h := h.1 rfl
    refine V_st (st' := [Value.int v8, Value.ref (enc 12 0)]) rfl ?_
    refine V_if_ne (pc := 6) (tgt := 13) C dX8_letGo_6 (by decide) h (fun h => ?_) (fun h => ?_)
    · refine V_aload_n (pc := 13) C dX8_letGo_13 rfl 0 rfl ?_
      refine V_getF (pc := 14) C hT f1_X8_35 g1013 dX8_letGo_14 ?_
      refine V_iload_n (pc := 17) C dX8_letGo_17 rfl 1 rfl ?_
      refine V_mldZ (pc := 18) C hT tb1_arr (n := 100) (c9 := 135) rfl rfl rfl h dX8_letGo_18 (fun h => ?_)
      refine V_if_eq (pc := 19) (tgt := 26) C dX8_letGo_19 (by decide) h (fun h => ?_) (fun h => ?_)
      · refine V_iconst (pc := 26) C (v := 0) dX8_letGo_26 rfl ?_
        refine V_sub [0, 1] rfl ?_
        exact k_X8_letGo_27 hT hl C hr hnm htab  h
      · refine V_iconst (pc := 22) C (v := 2) dX8_letGo_22 rfl ?_
        refine V_goto (pc := 23) (tgt := 27) C dX8_letGo_23 (by decide) ?_
        refine V_sub [0, 1] rfl ?_
        exact k_X8_letGo_27 hT hl C hr hnm htab  h
    · refine V_iconst (pc := 9) C (v := 1) dX8_letGo_9 rfl ?_
      refine V_goto (pc := 10) (tgt := 27) C dX8_letGo_10 (by decide) ?_
      refine V_sub [0, 1] rfl ?_
      exact k_X8_letGo_27 hT hl C hr hnm htab  h
theorem pl_X8_canSee : (parseMethodDescriptor yX8_canSee.desc).map (fun d => d.parameters.length) = some 2 := by decide +kernel
def w_X8_canSee (a1 : Int32) (a2 : Int32) (S : Sg) (Q : Nat → Int32 → Sg → Prop) : Prop := (vp_in a1 30 ∧ (vp_in (S.1 122 (nt a1)) 8 ∧ ((a2 < (S.1 109 (nt (S.1 122 (nt a1)))) → Q 0 0 S) ∧ (¬ a2 < (S.1 109 (nt (S.1 122 (nt a1)))) → Q 0 1 S))))
theorem ct_X8_canSee (hT : xT X = tb1) (hl : l.stackTraces = false) {a1 : Int32} {a2 : Int32} {S : Sg} (h : w_X8_canSee a1 a2 S Qa) : CT X k0 l yX8_canSee cX8_canSee 3 (some .boolean) 1 0 [Value.ref (enc 12 0), Value.int a1, Value.int a2] rvI S Qa :=
  CT_ofV (own := RX8) (by decide +kernel) (le8 rfl) rfl hl fun p e R s m args below meth c ad0 C hr hnm htab => by
    refine V_iload_n (pc := 0) C dX8_canSee_0 rfl 2 rfl ?_
    refine V_aload_n (pc := 1) C dX8_canSee_1 rfl 0 rfl ?_
    refine V_getF (pc := 2) C hT f1_X8_9 g987 dX8_canSee_2 ?_
    refine V_aload_n (pc := 5) C dX8_canSee_5 rfl 0 rfl ?_
    refine V_getF (pc := 6) C hT f1_X8_22 g1000 dX8_canSee_6 ?_
    refine V_iload_n (pc := 9) C dX8_canSee_9 rfl 1 rfl ?_
    refine V_mld (pc := 10) C hT tb1_arr (n := 30) (c9 := 122) rfl rfl rfl h dX8_canSee_10 (fun h => ?_)
    refine V_mld (pc := 11) C hT tb1_arr (n := 8) (c9 := 109) rfl rfl rfl h dX8_canSee_11 (fun h => ?_)
    refine V_icmp_lt (pc := 12) (tgt := 19) C dX8_canSee_12 (by decide) h (fun h => ?_) (fun h => ?_)
    · refine V_iconst (pc := 19) C (v := 0) dX8_canSee_19 rfl ?_
      exact V_zret (pc := 20) C hr (by decide) rfl h dX8_canSee_20
    · refine V_iconst (pc := 15) C (v := 1) dX8_canSee_15 rfl ?_
      refine V_goto (pc := 16) (tgt := 20) C dX8_canSee_16 (by decide) ?_
      exact V_zret (pc := 20) C hr (by decide) rfl h dX8_canSee_20
theorem pl_X8_buy : (parseMethodDescriptor yX8_buy.desc).map (fun d => d.parameters.length) = some 2 := by decide +kernel
def w_X8_buy_80  (Q : Nat → Int32 → Sg → Prop) (x1 : Int32) (x2 : Int32) (y0 : Int32) (S : Sg) : Prop := (w_X8_fails y0 S (fun k3 v2 S1 => (k3 = 0 → ((v2 = 0 → (vp_in x1 100 ∧ ((1 : Int32) = 0 ∨ (1 : Int32) = 1) ∧ (∀ S4, S4 = su S1 135 (nt x1) 1 → (vp_in x1 100 ∧ (vp_in x1 100 ∧ (vp_in ((48 * (S4.1 132 (nt x1))) + (S4.1 133 (nt x1))) 1440 ∧ (∀ S5, S5 = su S4 127 (nt ((48 * (S4.1 132 (nt x1))) + (S4.1 133 (nt x1)))) (-1) → (vp_in x1 100 ∧ (vp_in x1 100 ∧ (w_X8_sells (S5.1 132 (nt x1)) (S5.1 133 (nt x1)) x2 S5 (fun k8 v7 S6 => (k8 = 0 → Q 0 v7 S6) ∧ (¬ k8 = 0 → Q k8 0 S6)))))))))))) ∧ (¬ v2 = 0 → Q 0 0 S1))) ∧ (¬ k3 = 0 → Q k3 0 S1)))
theorem k_X8_buy_80 (hT : xT X = tb1) (hl : l.stackTraces = false) (C : Cn X k0 p l R s m meth c cX8_buy RX8 4 3 46) (hr : meth.sig.returnType = (some .int)) (hnm : meth.name = yX8_buy.name) (htab : ∀ x ∈ c.exceptionTable.toList, False)  {x1 : Int32} {x2 : Int32} {y0 : Int32} {S : Sg} (h : w_X8_buy_80  Qa x1 x2 y0 S) : V X p l e R s m args below meth c 4 (QM X below args s S0 ad0 rvI Qa) S0 ad0 S 80 [(0, Value.ref (enc 12 0)), (1, Value.int x1), (2, Value.int x2)] [Value.int y0, Value.ref (enc 12 0)] := by
  refine V_callV (pc := 80) C (ct_X8_fails hT hl h) g1120 g1122 g32 g1123 g64 ⟨by decide, by decide, pl_X8_fails⟩ (enc_ne63 (by decide)) (ct_obj hT rfl (by decide)) rfl ⟨by decide, by decide⟩ (rest := []) rfl (le8 rfl) dX8_buy_80 (fun v2 S1 h => ?_) (fun k9 S9 hk h => VX_out C htab hk (h.2 (by omega)))
  replace h := h.1 rfl
  refine V_st (st' := [Value.int v2]) rfl ?_
  refine V_if_eq (pc := 83) (tgt := 88) C dX8_buy_83 (by decide) h (fun h => ?_) (fun h => ?_)
  · refine V_aload_n (pc := 88) C dX8_buy_88 rfl 0 rfl ?_
    refine V_getF (pc := 89) C hT f1_X8_35 g1013 dX8_buy_89 ?_
    refine V_iload_n (pc := 92) C dX8_buy_92 rfl 1 rfl ?_
    refine V_iconst (pc := 93) C (v := 1) dX8_buy_93 rfl ?_
    refine V_mstZ (pc := 94) C hT tb1_arr (n := 100) (c9 := 135) (by decide) rfl rfl rfl h dX8_buy_94 (fun h => V_nx fun S4 e9 => ?_)
    replace h := h S4 e9; clear e9
    refine V_aload_n (pc := 95) C dX8_buy_95 rfl 0 rfl ?_
    refine V_getF (pc := 96) C hT f1_X8_27 g1005 dX8_buy_96 ?_
    refine V_bipush (pc := 99) C (v := 48) dX8_buy_99 rfl ?_
    refine V_aload_n (pc := 101) C dX8_buy_101 rfl 0 rfl ?_
    refine V_getF (pc := 102) C hT f1_X8_32 g1010 dX8_buy_102 ?_
    refine V_iload_n (pc := 105) C dX8_buy_105 rfl 1 rfl ?_
    refine V_mld (pc := 106) C hT tb1_arr (n := 100) (c9 := 132) rfl rfl rfl h dX8_buy_106 (fun h => ?_)
    refine V_imul (pc := 107) C dX8_buy_107 ?_
    refine V_aload_n (pc := 108) C dX8_buy_108 rfl 0 rfl ?_
    refine V_getF (pc := 109) C hT f1_X8_33 g1011 dX8_buy_109 ?_
    refine V_iload_n (pc := 112) C dX8_buy_112 rfl 1 rfl ?_
    refine V_mld (pc := 113) C hT tb1_arr (n := 100) (c9 := 133) rfl rfl rfl h dX8_buy_113 (fun h => ?_)
    refine V_iadd (pc := 114) C dX8_buy_114 ?_
    refine V_iconst (pc := 115) C (v := (-1)) dX8_buy_115 rfl ?_
    refine V_mst (pc := 116) C hT tb1_arr (n := 1440) (c9 := 127) (by decide) rfl rfl rfl h dX8_buy_116 (fun h => V_nx fun S5 e9 => ?_)
    replace h := h S5 e9; clear e9
    refine V_aload_n (pc := 117) C dX8_buy_117 rfl 0 rfl ?_
    refine V_aload_n (pc := 118) C dX8_buy_118 rfl 0 rfl ?_
    refine V_getF (pc := 119) C hT f1_X8_32 g1010 dX8_buy_119 ?_
    refine V_iload_n (pc := 122) C dX8_buy_122 rfl 1 rfl ?_
    refine V_mld (pc := 123) C hT tb1_arr (n := 100) (c9 := 132) rfl rfl rfl h dX8_buy_123 (fun h => ?_)
    refine V_aload_n (pc := 124) C dX8_buy_124 rfl 0 rfl ?_
    refine V_getF (pc := 125) C hT f1_X8_33 g1011 dX8_buy_125 ?_
    refine V_iload_n (pc := 128) C dX8_buy_128 rfl 1 rfl ?_
    refine V_mld (pc := 129) C hT tb1_arr (n := 100) (c9 := 133) rfl rfl rfl h dX8_buy_129 (fun h => ?_)
    refine V_iload_n (pc := 130) C dX8_buy_130 rfl 2 rfl ?_
    refine V_callV (pc := 131) C (ct_X8_sells hT hl h) g1198 g1200 g42 g1201 g64 ⟨by decide, by decide, pl_X8_sells⟩ (enc_ne63 (by decide)) (ct_obj hT rfl (by decide)) rfl ⟨by decide, by decide⟩ (rest := []) rfl (le8 rfl) dX8_buy_131 (fun v7 S6 h => ?_) (fun k9 S9 hk h => VX_out C htab hk (h.2 (by omega)))
    replace h := h.1 rfl
    refine V_st (st' := [Value.int v7]) rfl ?_
    exact V_iret (pc := 134) C hr rfl h dX8_buy_134
  · refine V_iconst (pc := 86) C (v := 0) dX8_buy_86 rfl ?_
    exact V_iret (pc := 87) C hr rfl h dX8_buy_87
def w_X8_buy_46  (Q : Nat → Int32 → Sg → Prop) (x1 : Int32) (x2 : Int32) (y0 : Int32) (S : Sg) : Prop := (w_X8_isHold x1 S (fun k11 v10 S9 => (k11 = 0 → ((v10 = 0 → w_X8_buy_80  Q x1 x2 1 S9) ∧ (¬ v10 = 0 → (w_X8_isAge x2 S9 (fun k14 v13 S12 => (k14 = 0 → ((v13 = 0 → w_X8_buy_80  Q x1 x2 2 S12) ∧ (¬ v13 = 0 → ((y0 = 0 → w_X8_buy_80  Q x1 x2 3 S12) ∧ (¬ y0 = 0 → w_X8_buy_80  Q x1 x2 0 S12))))) ∧ (¬ k14 = 0 → Q k14 0 S12)))))) ∧ (¬ k11 = 0 → Q k11 0 S9)))
theorem k_X8_buy_46 (hT : xT X = tb1) (hl : l.stackTraces = false) (C : Cn X k0 p l R s m meth c cX8_buy RX8 4 3 46) (hr : meth.sig.returnType = (some .int)) (hnm : meth.name = yX8_buy.name) (htab : ∀ x ∈ c.exceptionTable.toList, False)  {x1 : Int32} {x2 : Int32} {y0 : Int32} {S : Sg} (h : w_X8_buy_46  Qa x1 x2 y0 S) : V X p l e R s m args below meth c 4 (QM X below args s S0 ad0 rvI Qa) S0 ad0 S 46 [(0, Value.ref (enc 12 0)), (1, Value.int x1), (2, Value.int x2)] [Value.int y0] := by
  refine V_istore_n (pc := 46) C dX8_buy_46 rfl (by decide) rfl ?_
  refine V_aload_n (pc := 47) C dX8_buy_47 rfl 1 rfl ?_
  refine V_aload_n (pc := 48) C dX8_buy_48 rfl 1 rfl ?_
  refine V_iload_n (pc := 49) C dX8_buy_49 rfl 2 rfl ?_
  refine V_callV (pc := 50) C (ct_X8_isHold hT hl h) g1226 g1228 g47 g1229 g64 ⟨by decide, by decide, pl_X8_isHold⟩ (enc_ne63 (by decide)) (ct_obj hT rfl (by decide)) rfl ⟨by decide, by decide⟩ (rest := [Value.ref (enc 12 0)]) rfl (le8 rfl) dX8_buy_50 (fun v10 S9 h => ?_) (fun k9 S9 hk h => VX_out C htab hk (h.2 (by omega)))
  replace h := h.1 rfl
  refine V_st (st' := [Value.int v10, Value.ref (enc 12 0)]) rfl ?_
  refine V_if_ne (pc := 53) (tgt := 60) C dX8_buy_53 (by decide) h (fun h => ?_) (fun h => ?_)
  · refine V_iload_n (pc := 60) C dX8_buy_60 rfl 3 rfl ?_
    refine V_callS (pc := 61) C (ct_X8_isAge hT hl h) g1238 g1239 g1240 g64 ⟨by decide, by decide, pl_X8_isAge⟩ ⟨by decide, by decide⟩ (rest := [Value.ref (enc 12 0)]) rfl (le8 rfl) dX8_buy_61 (fun v13 S12 h => ?_) (fun k9 S9 hk h => VX_out C htab hk (h.2 (by omega)))
    replace h := h.1 rfl
    refine V_st (st' := [Value.int v13, Value.ref (enc 12 0)]) rfl ?_
    refine V_if_ne (pc := 64) (tgt := 71) C dX8_buy_64 (by decide) h (fun h => ?_) (fun h => ?_)
    · refine V_iload_n (pc := 71) C dX8_buy_71 rfl 0 rfl ?_
      refine V_if_eq (pc := 72) (tgt := 79) C dX8_buy_72 (by decide) h (fun h => ?_) (fun h => ?_)
      · refine V_iconst (pc := 79) C (v := 3) dX8_buy_79 rfl ?_
        refine V_sub [1, 2, 3] rfl ?_
        exact k_X8_buy_80 hT hl C hr hnm htab  h
      · refine V_iconst (pc := 75) C (v := 0) dX8_buy_75 rfl ?_
        refine V_goto (pc := 76) (tgt := 80) C dX8_buy_76 (by decide) ?_
        refine V_sub [1, 2, 3] rfl ?_
        exact k_X8_buy_80 hT hl C hr hnm htab  h
    · refine V_iconst (pc := 67) C (v := 2) dX8_buy_67 rfl ?_
      refine V_goto (pc := 68) (tgt := 80) C dX8_buy_68 (by decide) ?_
      refine V_sub [1, 2, 3] rfl ?_
      exact k_X8_buy_80 hT hl C hr hnm htab  h
  · refine V_iconst (pc := 56) C (v := 1) dX8_buy_56 rfl ?_
    refine V_goto (pc := 57) (tgt := 80) C dX8_buy_57 (by decide) ?_
    refine V_sub [1, 2, 3] rfl ?_
    exact k_X8_buy_80 hT hl C hr hnm htab  h
def w_X8_buy_45  (Q : Nat → Int32 → Sg → Prop) (x1 : Int32) (x2 : Int32) (S : Sg) : Prop := w_X8_buy_46  Q x1 x2 0 S
theorem k_X8_buy_45 (hT : xT X = tb1) (hl : l.stackTraces = false) (C : Cn X k0 p l R s m meth c cX8_buy RX8 4 3 46) (hr : meth.sig.returnType = (some .int)) (hnm : meth.name = yX8_buy.name) (htab : ∀ x ∈ c.exceptionTable.toList, False)  {x1 : Int32} {x2 : Int32} {S : Sg} (h : w_X8_buy_45  Qa x1 x2 S) : V X p l e R s m args below meth c 4 (QM X below args s S0 ad0 rvI Qa) S0 ad0 S 45 [(0, Value.ref (enc 12 0)), (1, Value.int x1), (2, Value.int x2)] [] := by
  refine V_iconst (pc := 45) C (v := 0) dX8_buy_45 rfl ?_
  refine V_sub [0, 1, 2] rfl ?_
  exact k_X8_buy_46 hT hl C hr hnm htab  h
def w_X8_buy (a1 : Int32) (a2 : Int32) (S : Sg) (Q : Nat → Int32 → Sg → Prop) : Prop := (w_X8_isHold a1 S (fun k17 v16 S15 => (k17 = 0 → ((v16 = 0 → w_X8_buy_45  Q a1 a2 S15) ∧ (¬ v16 = 0 → (vp_in a1 100 ∧ (((S15.1 135 (nt a1)) = 0 → (vp_in a1 100 ∧ (w_X8_canSee (S15.1 132 (nt a1)) a2 S15 (fun k20 v19 S18 => (k20 = 0 → ((v19 = 0 → w_X8_buy_45  Q a1 a2 S18) ∧ (¬ v19 = 0 → ((400 ≤ (S18.1 336 0) → w_X8_buy_45  Q a1 a2 S18) ∧ (¬ 400 ≤ (S18.1 336 0) → w_X8_buy_46  Q a1 a2 1 S18))))) ∧ (¬ k20 = 0 → Q k20 0 S18))))) ∧ (¬ (S15.1 135 (nt a1)) = 0 → w_X8_buy_45  Q a1 a2 S15)))))) ∧ (¬ k17 = 0 → Q k17 0 S15)))
theorem ct_X8_buy (hT : xT X = tb1) (hl : l.stackTraces = false) {a1 : Int32} {a2 : Int32} {S : Sg} (h : w_X8_buy a1 a2 S Qa) : CT X k0 l yX8_buy cX8_buy 4 (some .int) 3 46 [Value.ref (enc 12 0), Value.int a1, Value.int a2] rvI S Qa :=
  CT_ofV (own := RX8) (by decide +kernel) (le8 rfl) rfl hl fun p e R s m args below meth c ad0 C hr hnm htab => by
    refine V_aload_n (pc := 0) C dX8_buy_0 rfl 0 rfl ?_
    refine V_iload_n (pc := 1) C dX8_buy_1 rfl 1 rfl ?_
    refine V_callV (pc := 2) C (ct_X8_isHold hT hl h) g1226 g1228 g47 g1229 g64 ⟨by decide, by decide, pl_X8_isHold⟩ (enc_ne63 (by decide)) (ct_obj hT rfl (by decide)) rfl ⟨by decide, by decide⟩ (rest := []) rfl (le8 rfl) dX8_buy_2 (fun v16 S15 h => ?_) (fun k9 S9 hk h => VX_out C htab hk (h.2 (by omega)))
    replace h := h.1 rfl
    refine V_st (st' := [Value.int v16]) rfl ?_
    refine V_if_eq (pc := 5) (tgt := 45) C dX8_buy_5 (by decide) h (fun h => ?_) (fun h => ?_)
    · refine V_sub [0, 1, 2] rfl ?_
      exact k_X8_buy_45 hT hl C hr hnm htab  h
    · refine V_aload_n (pc := 8) C dX8_buy_8 rfl 0 rfl ?_
      refine V_getF (pc := 9) C hT f1_X8_35 g1013 dX8_buy_9 ?_
      refine V_iload_n (pc := 12) C dX8_buy_12 rfl 1 rfl ?_
      refine V_mldZ (pc := 13) C hT tb1_arr (n := 100) (c9 := 135) rfl rfl rfl h dX8_buy_13 (fun h => ?_)
      refine V_if_ne (pc := 14) (tgt := 45) C dX8_buy_14 (by decide) h (fun h => ?_) (fun h => ?_)
      · refine V_sub [0, 1, 2] rfl ?_
        exact k_X8_buy_45 hT hl C hr hnm htab  h
      · refine V_aload_n (pc := 17) C dX8_buy_17 rfl 0 rfl ?_
        refine V_aload_n (pc := 18) C dX8_buy_18 rfl 0 rfl ?_
        refine V_getF (pc := 19) C hT f1_X8_32 g1010 dX8_buy_19 ?_
        refine V_iload_n (pc := 22) C dX8_buy_22 rfl 1 rfl ?_
        refine V_mld (pc := 23) C hT tb1_arr (n := 100) (c9 := 132) rfl rfl rfl h dX8_buy_23 (fun h => ?_)
        refine V_iload_n (pc := 24) C dX8_buy_24 rfl 2 rfl ?_
        refine V_callV (pc := 25) C (ct_X8_canSee hT hl h) g1234 g1236 g48 g1237 g64 ⟨by decide, by decide, pl_X8_canSee⟩ (enc_ne63 (by decide)) (ct_obj hT rfl (by decide)) rfl ⟨by decide, by decide⟩ (rest := []) rfl (le8 rfl) dX8_buy_25 (fun v19 S18 h => ?_) (fun k9 S9 hk h => VX_out C htab hk (h.2 (by omega)))
        replace h := h.1 rfl
        refine V_st (st' := [Value.int v19]) rfl ?_
        refine V_if_eq (pc := 28) (tgt := 45) C dX8_buy_28 (by decide) h (fun h => ?_) (fun h => ?_)
        · refine V_sub [0, 1, 2] rfl ?_
          exact k_X8_buy_45 hT hl C hr hnm htab  h
        · refine V_aload_n (pc := 31) C dX8_buy_31 rfl 0 rfl ?_
          refine V_getI (pc := 32) C hT f1_X8_36 g1014 dX8_buy_32 ?_
          refine V_sipush (pc := 35) C (v := 400) dX8_buy_35 rfl ?_
          refine V_icmp_ge (pc := 38) (tgt := 45) C dX8_buy_38 (by decide) h (fun h => ?_) (fun h => ?_)
          · refine V_sub [0, 1, 2] rfl ?_
            exact k_X8_buy_45 hT hl C hr hnm htab  h
          · refine V_iconst (pc := 41) C (v := 1) dX8_buy_41 rfl ?_
            refine V_goto (pc := 42) (tgt := 46) C dX8_buy_42 (by decide) ?_
            refine V_sub [0, 1, 2] rfl ?_
            exact k_X8_buy_46 hT hl C hr hnm htab  h
theorem pl_X8_sell : (parseMethodDescriptor yX8_sell.desc).map (fun d => d.parameters.length) = some 4 := by decide +kernel
def w_X8_sell_97  (Q : Nat → Int32 → Sg → Prop) (x1 : Int32) (x2 : Int32) (x3 : Int32) (x4 : Int32) (y0 : Int32) (S : Sg) : Prop := (w_X8_fails y0 S (fun k3 v2 S1 => (k3 = 0 → ((v2 = 0 → (w_X8_seatOf x1 x2 x3 S1 (fun k6 v5 S4 => (k6 = 0 → (w_X8_sells x1 v5 x4 S4 (fun k9 v8 S7 => (k9 = 0 → Q 0 v8 S7) ∧ (¬ k9 = 0 → Q k9 0 S7)))) ∧ (¬ k6 = 0 → Q k6 0 S4)))) ∧ (¬ v2 = 0 → Q 0 0 S1))) ∧ (¬ k3 = 0 → Q k3 0 S1)))
theorem k_X8_sell_97 (hT : xT X = tb1) (hl : l.stackTraces = false) (C : Cn X k0 p l R s m meth c cX8_sell RX8 7 4 66) (hr : meth.sig.returnType = (some .int)) (hnm : meth.name = yX8_sell.name) (htab : ∀ x ∈ c.exceptionTable.toList, False)  {x1 : Int32} {x2 : Int32} {x3 : Int32} {x4 : Int32} {y0 : Int32} {S : Sg} (h : w_X8_sell_97  Qa x1 x2 x3 x4 y0 S) : V X p l e R s m args below meth c 7 (QM X below args s S0 ad0 rvI Qa) S0 ad0 S 97 [(0, Value.ref (enc 12 0)), (1, Value.int x1), (2, Value.int x2), (3, Value.int x3), (4, Value.int x4)] [Value.int y0, Value.ref (enc 12 0)] := by
  refine V_callV (pc := 97) C (ct_X8_fails hT hl h) g1120 g1122 g32 g1123 g64 ⟨by decide, by decide, pl_X8_fails⟩ (enc_ne63 (by decide)) (ct_obj hT rfl (by decide)) rfl ⟨by decide, by decide⟩ (rest := []) rfl (le8 rfl) dX8_sell_97 (fun v2 S1 h => ?_) (fun k9 S9 hk h => VX_out C htab hk (h.2 (by omega)))
  replace h := h.1 rfl
  refine V_st (st' := [Value.int v2]) rfl ?_
  refine V_if_eq (pc := 100) (tgt := 105) C dX8_sell_100 (by decide) h (fun h => ?_) (fun h => ?_)
  · refine V_aload_n (pc := 105) C dX8_sell_105 rfl 0 rfl ?_
    refine V_iload_n (pc := 106) C dX8_sell_106 rfl 1 rfl ?_
    refine V_aload_n (pc := 107) C dX8_sell_107 rfl 0 rfl ?_
    refine V_iload_n (pc := 108) C dX8_sell_108 rfl 1 rfl ?_
    refine V_iload_n (pc := 109) C dX8_sell_109 rfl 2 rfl ?_
    refine V_iload_n (pc := 110) C dX8_sell_110 rfl 3 rfl ?_
    refine V_callV (pc := 111) C (ct_X8_seatOf hT hl h) g1214 g1216 g45 g1217 g64 ⟨by decide, by decide, pl_X8_seatOf⟩ (enc_ne63 (by decide)) (ct_obj hT rfl (by decide)) rfl ⟨by decide, by decide⟩ (rest := [Value.int x1, Value.ref (enc 12 0)]) rfl (le8 rfl) dX8_sell_111 (fun v5 S4 h => ?_) (fun k9 S9 hk h => VX_out C htab hk (h.2 (by omega)))
    replace h := h.1 rfl
    refine V_st (st' := [Value.int v5, Value.int x1, Value.ref (enc 12 0)]) rfl ?_
    refine V_iload (pc := 114) C dX8_sell_114 4 rfl ?_
    refine V_callV (pc := 116) C (ct_X8_sells hT hl h) g1198 g1200 g42 g1201 g64 ⟨by decide, by decide, pl_X8_sells⟩ (enc_ne63 (by decide)) (ct_obj hT rfl (by decide)) rfl ⟨by decide, by decide⟩ (rest := []) rfl (le8 rfl) dX8_sell_116 (fun v8 S7 h => ?_) (fun k9 S9 hk h => VX_out C htab hk (h.2 (by omega)))
    replace h := h.1 rfl
    refine V_st (st' := [Value.int v8]) rfl ?_
    exact V_iret (pc := 119) C hr rfl h dX8_sell_119
  · refine V_iconst (pc := 103) C (v := 0) dX8_sell_103 rfl ?_
    exact V_iret (pc := 104) C hr rfl h dX8_sell_104
def w_X8_sell_63  (Q : Nat → Int32 → Sg → Prop) (x1 : Int32) (x2 : Int32) (x3 : Int32) (x4 : Int32) (x5 : Int32) (y0 : Int32) (S : Sg) : Prop := ((x5 = 0 → w_X8_sell_97  Q x1 x2 x3 x4 1 S) ∧ (¬ x5 = 0 → (w_X8_isAge x4 S (fun k12 v11 S10 => (k12 = 0 → ((v11 = 0 → w_X8_sell_97  Q x1 x2 x3 x4 2 S10) ∧ (¬ v11 = 0 → ((y0 = 0 → w_X8_sell_97  Q x1 x2 x3 x4 3 S10) ∧ (¬ y0 = 0 → w_X8_sell_97  Q x1 x2 x3 x4 0 S10))))) ∧ (¬ k12 = 0 → Q k12 0 S10)))))
theorem k_X8_sell_63 (hT : xT X = tb1) (hl : l.stackTraces = false) (C : Cn X k0 p l R s m meth c cX8_sell RX8 7 4 66) (hr : meth.sig.returnType = (some .int)) (hnm : meth.name = yX8_sell.name) (htab : ∀ x ∈ c.exceptionTable.toList, False)  {x1 : Int32} {x2 : Int32} {x3 : Int32} {x4 : Int32} {x5 : Int32} {y0 : Int32} {S : Sg} (h : w_X8_sell_63  Qa x1 x2 x3 x4 x5 y0 S) : V X p l e R s m args below meth c 7 (QM X below args s S0 ad0 rvI Qa) S0 ad0 S 63 [(0, Value.ref (enc 12 0)), (1, Value.int x1), (2, Value.int x2), (3, Value.int x3), (4, Value.int x4), (5, Value.int x5)] [Value.int y0] := by
  refine V_istore (pc := 63) C dX8_sell_63 (by decide) rfl ?_
  refine V_aload_n (pc := 65) C dX8_sell_65 rfl 1 rfl ?_
  refine V_iload (pc := 66) C dX8_sell_66 6 rfl ?_
  refine V_if_ne (pc := 68) (tgt := 75) C dX8_sell_68 (by decide) h (fun h => ?_) (fun h => ?_)
  · refine V_iload (pc := 75) C dX8_sell_75 5 rfl ?_
    refine V_callS (pc := 77) C (ct_X8_isAge hT hl h) g1238 g1239 g1240 g64 ⟨by decide, by decide, pl_X8_isAge⟩ ⟨by decide, by decide⟩ (rest := [Value.ref (enc 12 0)]) rfl (le8 rfl) dX8_sell_77 (fun v11 S10 h => ?_) (fun k9 S9 hk h => VX_out C htab hk (h.2 (by omega)))
    replace h := h.1 rfl
    refine V_st (st' := [Value.int v11, Value.ref (enc 12 0)]) rfl ?_
    refine V_if_ne (pc := 80) (tgt := 87) C dX8_sell_80 (by decide) h (fun h => ?_) (fun h => ?_)
    · refine V_iload (pc := 87) C dX8_sell_87 0 rfl ?_
      refine V_if_eq (pc := 89) (tgt := 96) C dX8_sell_89 (by decide) h (fun h => ?_) (fun h => ?_)
      · refine V_iconst (pc := 96) C (v := 3) dX8_sell_96 rfl ?_
        refine V_sub [1, 2, 3, 4, 5] rfl ?_
        exact k_X8_sell_97 hT hl C hr hnm htab  h
      · refine V_iconst (pc := 92) C (v := 0) dX8_sell_92 rfl ?_
        refine V_goto (pc := 93) (tgt := 97) C dX8_sell_93 (by decide) ?_
        refine V_sub [1, 2, 3, 4, 5] rfl ?_
        exact k_X8_sell_97 hT hl C hr hnm htab  h
    · refine V_iconst (pc := 83) C (v := 2) dX8_sell_83 rfl ?_
      refine V_goto (pc := 84) (tgt := 97) C dX8_sell_84 (by decide) ?_
      refine V_sub [1, 2, 3, 4, 5] rfl ?_
      exact k_X8_sell_97 hT hl C hr hnm htab  h
  · refine V_iconst (pc := 71) C (v := 1) dX8_sell_71 rfl ?_
    refine V_goto (pc := 72) (tgt := 97) C dX8_sell_72 (by decide) ?_
    refine V_sub [1, 2, 3, 4, 5] rfl ?_
    exact k_X8_sell_97 hT hl C hr hnm htab  h
def w_X8_sell_62  (Q : Nat → Int32 → Sg → Prop) (x1 : Int32) (x2 : Int32) (x3 : Int32) (x4 : Int32) (x5 : Int32) (S : Sg) : Prop := w_X8_sell_63  Q x1 x2 x3 x4 x5 0 S
theorem k_X8_sell_62 (hT : xT X = tb1) (hl : l.stackTraces = false) (C : Cn X k0 p l R s m meth c cX8_sell RX8 7 4 66) (hr : meth.sig.returnType = (some .int)) (hnm : meth.name = yX8_sell.name) (htab : ∀ x ∈ c.exceptionTable.toList, False)  {x1 : Int32} {x2 : Int32} {x3 : Int32} {x4 : Int32} {x5 : Int32} {S : Sg} (h : w_X8_sell_62  Qa x1 x2 x3 x4 x5 S) : V X p l e R s m args below meth c 7 (QM X below args s S0 ad0 rvI Qa) S0 ad0 S 62 [(0, Value.ref (enc 12 0)), (1, Value.int x1), (2, Value.int x2), (3, Value.int x3), (4, Value.int x4), (5, Value.int x5)] [] := by
  refine V_iconst (pc := 62) C (v := 0) dX8_sell_62 rfl ?_
  refine V_sub [0, 1, 2, 3, 4, 5] rfl ?_
  exact k_X8_sell_63 hT hl C hr hnm htab  h
def w_X8_sell (a1 : Int32) (a2 : Int32) (a3 : Int32) (a4 : Int32) (S : Sg) (Q : Nat → Int32 → Sg → Prop) : Prop := (w_X8_isSeat a1 a2 a3 S (fun k15 v14 S13 => (k15 = 0 → ((v14 = 0 → w_X8_sell_62  Q a1 a2 a3 a4 v14 S13) ∧ (¬ v14 = 0 → (vp_in a1 30 ∧ (((S13.1 125 (nt a1)) = 0 → (w_X8_seatOf a1 a2 a3 S13 (fun k18 v17 S16 => (k18 = 0 → (w_X8_isFree a1 v17 S16 (fun k21 v20 S19 => (k21 = 0 → ((v20 = 0 → w_X8_sell_62  Q a1 a2 a3 a4 v14 S19) ∧ (¬ v20 = 0 → (w_X8_canSee a1 a4 S19 (fun k24 v23 S22 => (k24 = 0 → ((v23 = 0 → w_X8_sell_62  Q a1 a2 a3 a4 v14 S22) ∧ (¬ v23 = 0 → ((400 ≤ (S22.1 336 0) → w_X8_sell_62  Q a1 a2 a3 a4 v14 S22) ∧ (¬ 400 ≤ (S22.1 336 0) → w_X8_sell_63  Q a1 a2 a3 a4 v14 1 S22))))) ∧ (¬ k24 = 0 → Q k24 0 S22)))))) ∧ (¬ k21 = 0 → Q k21 0 S19)))) ∧ (¬ k18 = 0 → Q k18 0 S16)))) ∧ (¬ (S13.1 125 (nt a1)) = 0 → w_X8_sell_62  Q a1 a2 a3 a4 v14 S13)))))) ∧ (¬ k15 = 0 → Q k15 0 S13)))
theorem ct_X8_sell (hT : xT X = tb1) (hl : l.stackTraces = false) {a1 : Int32} {a2 : Int32} {a3 : Int32} {a4 : Int32} {S : Sg} (h : w_X8_sell a1 a2 a3 a4 S Qa) : CT X k0 l yX8_sell cX8_sell 7 (some .int) 4 66 [Value.ref (enc 12 0), Value.int a1, Value.int a2, Value.int a3, Value.int a4] rvI S Qa :=
  CT_ofV (own := RX8) (by decide +kernel) (le8 rfl) rfl hl fun p e R s m args below meth c ad0 C hr hnm htab => by
    refine V_aload_n (pc := 0) C dX8_sell_0 rfl 0 rfl ?_
    refine V_iload_n (pc := 1) C dX8_sell_1 rfl 1 rfl ?_
    refine V_iload_n (pc := 2) C dX8_sell_2 rfl 2 rfl ?_
    refine V_iload_n (pc := 3) C dX8_sell_3 rfl 3 rfl ?_
    refine V_callV (pc := 4) C (ct_X8_isSeat hT hl h) g1210 g1212 g44 g1213 g64 ⟨by decide, by decide, pl_X8_isSeat⟩ (enc_ne63 (by decide)) (ct_obj hT rfl (by decide)) rfl ⟨by decide, by decide⟩ (rest := []) rfl (le8 rfl) dX8_sell_4 (fun v14 S13 h => ?_) (fun k9 S9 hk h => VX_out C htab hk (h.2 (by omega)))
    replace h := h.1 rfl
    refine V_st (st' := [Value.int v14]) rfl ?_
    refine V_istore (pc := 7) C dX8_sell_7 (by decide) rfl ?_
    refine V_iload (pc := 9) C dX8_sell_9 0 rfl ?_
    refine V_if_eq (pc := 11) (tgt := 62) C dX8_sell_11 (by decide) h (fun h => ?_) (fun h => ?_)
    · refine V_sub [1, 2, 3, 4, 5, 0] rfl ?_
      exact k_X8_sell_62 hT hl C hr hnm htab  h
    · refine V_aload_n (pc := 14) C dX8_sell_14 rfl 1 rfl ?_
      refine V_getF (pc := 15) C hT f1_X8_25 g1003 dX8_sell_15 ?_
      refine V_iload_n (pc := 18) C dX8_sell_18 rfl 2 rfl ?_
      refine V_mld (pc := 19) C hT tb1_arr (n := 30) (c9 := 125) rfl rfl rfl h dX8_sell_19 (fun h => ?_)
      refine V_if_ne (pc := 20) (tgt := 62) C dX8_sell_20 (by decide) h (fun h => ?_) (fun h => ?_)
      · refine V_sub [1, 2, 3, 4, 5, 0] rfl ?_
        exact k_X8_sell_62 hT hl C hr hnm htab  h
      · refine V_aload_n (pc := 23) C dX8_sell_23 rfl 1 rfl ?_
        refine V_iload_n (pc := 24) C dX8_sell_24 rfl 2 rfl ?_
        refine V_aload_n (pc := 25) C dX8_sell_25 rfl 1 rfl ?_
        refine V_iload_n (pc := 26) C dX8_sell_26 rfl 2 rfl ?_
        refine V_iload_n (pc := 27) C dX8_sell_27 rfl 3 rfl ?_
        refine V_iload_n (pc := 28) C dX8_sell_28 rfl 4 rfl ?_
        refine V_callV (pc := 29) C (ct_X8_seatOf hT hl h) g1214 g1216 g45 g1217 g64 ⟨by decide, by decide, pl_X8_seatOf⟩ (enc_ne63 (by decide)) (ct_obj hT rfl (by decide)) rfl ⟨by decide, by decide⟩ (rest := [Value.int a1, Value.ref (enc 12 0)]) rfl (le8 rfl) dX8_sell_29 (fun v17 S16 h => ?_) (fun k9 S9 hk h => VX_out C htab hk (h.2 (by omega)))
        replace h := h.1 rfl
        refine V_st (st' := [Value.int v17, Value.int a1, Value.ref (enc 12 0)]) rfl ?_
        refine V_callV (pc := 32) C (ct_X8_isFree hT hl h) g1218 g1220 g46 g1221 g64 ⟨by decide, by decide, pl_X8_isFree⟩ (enc_ne63 (by decide)) (ct_obj hT rfl (by decide)) rfl ⟨by decide, by decide⟩ (rest := []) rfl (le8 rfl) dX8_sell_32 (fun v20 S19 h => ?_) (fun k9 S9 hk h => VX_out C htab hk (h.2 (by omega)))
        replace h := h.1 rfl
        refine V_st (st' := [Value.int v20]) rfl ?_
        refine V_if_eq (pc := 35) (tgt := 62) C dX8_sell_35 (by decide) h (fun h => ?_) (fun h => ?_)
        · refine V_sub [1, 2, 3, 4, 5, 0] rfl ?_
          exact k_X8_sell_62 hT hl C hr hnm htab  h
        · refine V_aload_n (pc := 38) C dX8_sell_38 rfl 1 rfl ?_
          refine V_iload_n (pc := 39) C dX8_sell_39 rfl 2 rfl ?_
          refine V_iload (pc := 40) C dX8_sell_40 5 rfl ?_
          refine V_callV (pc := 42) C (ct_X8_canSee hT hl h) g1234 g1236 g48 g1237 g64 ⟨by decide, by decide, pl_X8_canSee⟩ (enc_ne63 (by decide)) (ct_obj hT rfl (by decide)) rfl ⟨by decide, by decide⟩ (rest := []) rfl (le8 rfl) dX8_sell_42 (fun v23 S22 h => ?_) (fun k9 S9 hk h => VX_out C htab hk (h.2 (by omega)))
          replace h := h.1 rfl
          refine V_st (st' := [Value.int v23]) rfl ?_
          refine V_if_eq (pc := 45) (tgt := 62) C dX8_sell_45 (by decide) h (fun h => ?_) (fun h => ?_)
          · refine V_sub [1, 2, 3, 4, 5, 0] rfl ?_
            exact k_X8_sell_62 hT hl C hr hnm htab  h
          · refine V_aload_n (pc := 48) C dX8_sell_48 rfl 1 rfl ?_
            refine V_getI (pc := 49) C hT f1_X8_36 g1014 dX8_sell_49 ?_
            refine V_sipush (pc := 52) C (v := 400) dX8_sell_52 rfl ?_
            refine V_icmp_ge (pc := 55) (tgt := 62) C dX8_sell_55 (by decide) h (fun h => ?_) (fun h => ?_)
            · refine V_sub [1, 2, 3, 4, 5, 0] rfl ?_
              exact k_X8_sell_62 hT hl C hr hnm htab  h
            · refine V_iconst (pc := 58) C (v := 1) dX8_sell_58 rfl ?_
              refine V_goto (pc := 59) (tgt := 63) C dX8_sell_59 (by decide) ?_
              refine V_sub [1, 2, 3, 4, 5, 0] rfl ?_
              exact k_X8_sell_63 hT hl C hr hnm htab  h
theorem pl_X8_side : (parseMethodDescriptor yX8_side.desc).map (fun d => d.parameters.length) = some 2 := by decide +kernel
def w_X8_side_178 (k15 : Int32 → Int32 → Int32 → Int32 → Sg → Prop) (k40 : Int32 → Int32 → Int32 → Int32 → Int32 → Int32 → Int32 → Sg → Prop) (Q : Nat → Int32 → Sg → Prop) (x1 : Int32) (x2 : Int32) (x3 : Int32) (x4 : Int32) (x5 : Int32) (x7 : Int32) (y0 : Int32) (S : Sg) : Prop := k40 x1 x2 x3 x4 x5 y0 (x7 + 1) S
theorem k_X8_side_178 (hT : xT X = tb1) (hl : l.stackTraces = false) (C : Cn X k0 p l R s m meth c cX8_side RX8 11 2 22) (hr : meth.sig.returnType = (some .int)) (hnm : meth.name = yX8_side.name) (htab : ∀ x ∈ c.exceptionTable.toList, False) {k15 : Int32 → Int32 → Int32 → Int32 → Sg → Prop} (hk15 : ∀ {x1 : Int32} {x2 : Int32} {x3 : Int32} {x4 : Int32} {S : Sg}, k15 x1 x2 x3 x4 S → V X p l e R s m args below meth c 11 (QM X below args s S0 ad0 rvI Qa) S0 ad0 S 15 [(0, Value.ref (enc 12 0)), (1, Value.int x1), (2, Value.int x2), (3, Value.int x3), (4, Value.int x4)] []) {k40 : Int32 → Int32 → Int32 → Int32 → Int32 → Int32 → Int32 → Sg → Prop} (hk40 : ∀ {x1 : Int32} {x2 : Int32} {x3 : Int32} {x4 : Int32} {x5 : Int32} {x6 : Int32} {x7 : Int32} {S : Sg}, k40 x1 x2 x3 x4 x5 x6 x7 S → V X p l e R s m args below meth c 11 (QM X below args s S0 ad0 rvI Qa) S0 ad0 S 40 [(0, Value.ref (enc 12 0)), (1, Value.int x1), (2, Value.int x2), (3, Value.int x3), (4, Value.int x4), (5, Value.int x5), (6, Value.int x6), (7, Value.int x7)] []) {x1 : Int32} {x2 : Int32} {x3 : Int32} {x4 : Int32} {x5 : Int32} {x7 : Int32} {y0 : Int32} {S : Sg} (h : w_X8_side_178 k15 k40 Qa x1 x2 x3 x4 x5 x7 y0 S) : V X p l e R s m args below meth c 11 (QM X below args s S0 ad0 rvI Qa) S0 ad0 S 178 [(0, Value.ref (enc 12 0)), (1, Value.int x1), (2, Value.int x2), (3, Value.int x3), (4, Value.int x4), (5, Value.int x5), (7, Value.int x7)] [Value.int y0] := by
  refine V_istore (pc := 178) C dX8_side_178 (by decide) rfl ?_
  refine V_iinc (pc := 180) C (a := 7) (v := x7 + 1) dX8_side_180 rfl rfl (by decide) rfl ?_
  refine V_goto (pc := 183) (tgt := 40) C dX8_side_183 (by decide) ?_
  refine V_sub [2, 3, 4, 5, 6, 7, 1, 0] rfl ?_
  exact hk40 h
def w_X8_side_164 (k15 : Int32 → Int32 → Int32 → Int32 → Sg → Prop) (k40 : Int32 → Int32 → Int32 → Int32 → Int32 → Int32 → Int32 → Sg → Prop) (Q : Nat → Int32 → Sg → Prop) (x1 : Int32) (x2 : Int32) (x3 : Int32) (x4 : Int32) (x6 : Int32) (x7 : Int32) (x9 : Int32) (x10 : Int32) (y0 : Int32) (S : Sg) : Prop := ((x10 = 0 → w_X8_side_178 k15 k40 Q x1 x2 x3 x4 y0 x7 x6 S) ∧ (¬ x10 = 0 → w_X8_side_178 k15 k40 Q x1 x2 x3 x4 y0 x7 x9 S))
theorem k_X8_side_164 (hT : xT X = tb1) (hl : l.stackTraces = false) (C : Cn X k0 p l R s m meth c cX8_side RX8 11 2 22) (hr : meth.sig.returnType = (some .int)) (hnm : meth.name = yX8_side.name) (htab : ∀ x ∈ c.exceptionTable.toList, False) {k15 : Int32 → Int32 → Int32 → Int32 → Sg → Prop} (hk15 : ∀ {x1 : Int32} {x2 : Int32} {x3 : Int32} {x4 : Int32} {S : Sg}, k15 x1 x2 x3 x4 S → V X p l e R s m args below meth c 11 (QM X below args s S0 ad0 rvI Qa) S0 ad0 S 15 [(0, Value.ref (enc 12 0)), (1, Value.int x1), (2, Value.int x2), (3, Value.int x3), (4, Value.int x4)] []) {k40 : Int32 → Int32 → Int32 → Int32 → Int32 → Int32 → Int32 → Sg → Prop} (hk40 : ∀ {x1 : Int32} {x2 : Int32} {x3 : Int32} {x4 : Int32} {x5 : Int32} {x6 : Int32} {x7 : Int32} {S : Sg}, k40 x1 x2 x3 x4 x5 x6 x7 S → V X p l e R s m args below meth c 11 (QM X below args s S0 ad0 rvI Qa) S0 ad0 S 40 [(0, Value.ref (enc 12 0)), (1, Value.int x1), (2, Value.int x2), (3, Value.int x3), (4, Value.int x4), (5, Value.int x5), (6, Value.int x6), (7, Value.int x7)] []) {x1 : Int32} {x2 : Int32} {x3 : Int32} {x4 : Int32} {x6 : Int32} {x7 : Int32} {x9 : Int32} {x10 : Int32} {y0 : Int32} {S : Sg} (h : w_X8_side_164 k15 k40 Qa x1 x2 x3 x4 x6 x7 x9 x10 y0 S) : V X p l e R s m args below meth c 11 (QM X below args s S0 ad0 rvI Qa) S0 ad0 S 164 [(0, Value.ref (enc 12 0)), (1, Value.int x1), (2, Value.int x2), (3, Value.int x3), (4, Value.int x4), (6, Value.int x6), (7, Value.int x7), (9, Value.int x9), (10, Value.int x10)] [Value.int y0] := by
  refine V_istore (pc := 164) C dX8_side_164 (by decide) rfl ?_
  refine V_iload (pc := 166) C dX8_side_166 9 rfl ?_
  refine V_if_eq (pc := 168) (tgt := 176) C dX8_side_168 (by decide) h (fun h => ?_) (fun h => ?_)
  · refine V_iload (pc := 176) C dX8_side_176 6 rfl ?_
    refine V_sub [1, 2, 3, 4, 5, 0, 7] rfl ?_
    exact k_X8_side_178 hT hl C hr hnm htab (fun h => hk15 h) (fun h => hk40 h) h
  · refine V_iload (pc := 171) C dX8_side_171 8 rfl ?_
    refine V_goto (pc := 173) (tgt := 178) C dX8_side_173 (by decide) ?_
    refine V_sub [1, 2, 3, 4, 5, 0, 7] rfl ?_
    exact k_X8_side_178 hT hl C hr hnm htab (fun h => hk15 h) (fun h => hk40 h) h
def w_X8_side_145 (k15 : Int32 → Int32 → Int32 → Int32 → Sg → Prop) (k40 : Int32 → Int32 → Int32 → Int32 → Int32 → Int32 → Int32 → Sg → Prop) (Q : Nat → Int32 → Sg → Prop) (x1 : Int32) (x2 : Int32) (x3 : Int32) (x4 : Int32) (x5 : Int32) (x6 : Int32) (x7 : Int32) (x9 : Int32) (y0 : Int32) (S : Sg) : Prop := ((y0 = 0 → w_X8_side_164 k15 k40 Q x1 x2 x3 x4 x6 x7 x9 y0 x5 S) ∧ (¬ y0 = 0 → w_X8_side_164 k15 k40 Q x1 x2 x3 x4 x6 x7 x9 y0 ((x3 * x4) + x7) S))
theorem k_X8_side_145 (hT : xT X = tb1) (hl : l.stackTraces = false) (C : Cn X k0 p l R s m meth c cX8_side RX8 11 2 22) (hr : meth.sig.returnType = (some .int)) (hnm : meth.name = yX8_side.name) (htab : ∀ x ∈ c.exceptionTable.toList, False) {k15 : Int32 → Int32 → Int32 → Int32 → Sg → Prop} (hk15 : ∀ {x1 : Int32} {x2 : Int32} {x3 : Int32} {x4 : Int32} {S : Sg}, k15 x1 x2 x3 x4 S → V X p l e R s m args below meth c 11 (QM X below args s S0 ad0 rvI Qa) S0 ad0 S 15 [(0, Value.ref (enc 12 0)), (1, Value.int x1), (2, Value.int x2), (3, Value.int x3), (4, Value.int x4)] []) {k40 : Int32 → Int32 → Int32 → Int32 → Int32 → Int32 → Int32 → Sg → Prop} (hk40 : ∀ {x1 : Int32} {x2 : Int32} {x3 : Int32} {x4 : Int32} {x5 : Int32} {x6 : Int32} {x7 : Int32} {S : Sg}, k40 x1 x2 x3 x4 x5 x6 x7 S → V X p l e R s m args below meth c 11 (QM X below args s S0 ad0 rvI Qa) S0 ad0 S 40 [(0, Value.ref (enc 12 0)), (1, Value.int x1), (2, Value.int x2), (3, Value.int x3), (4, Value.int x4), (5, Value.int x5), (6, Value.int x6), (7, Value.int x7)] []) {x1 : Int32} {x2 : Int32} {x3 : Int32} {x4 : Int32} {x5 : Int32} {x6 : Int32} {x7 : Int32} {x9 : Int32} {y0 : Int32} {S : Sg} (h : w_X8_side_145 k15 k40 Qa x1 x2 x3 x4 x5 x6 x7 x9 y0 S) : V X p l e R s m args below meth c 11 (QM X below args s S0 ad0 rvI Qa) S0 ad0 S 145 [(0, Value.ref (enc 12 0)), (1, Value.int x1), (2, Value.int x2), (3, Value.int x3), (4, Value.int x4), (5, Value.int x5), (6, Value.int x6), (7, Value.int x7), (9, Value.int x9)] [Value.int y0] := by
  refine V_istore (pc := 145) C dX8_side_145 (by decide) rfl ?_
  refine V_iload (pc := 147) C dX8_side_147 0 rfl ?_
  refine V_if_eq (pc := 149) (tgt := 162) C dX8_side_149 (by decide) h (fun h => ?_) (fun h => ?_)
  · refine V_iload (pc := 162) C dX8_side_162 6 rfl ?_
    refine V_sub [1, 2, 3, 4, 5, 7, 8, 9, 0] rfl ?_
    exact k_X8_side_164 hT hl C hr hnm htab (fun h => hk15 h) (fun h => hk40 h) h
  · refine V_iload_n (pc := 152) C dX8_side_152 rfl 4 rfl ?_
    refine V_iload (pc := 153) C dX8_side_153 5 rfl ?_
    refine V_imul (pc := 155) C dX8_side_155 ?_
    refine V_iload (pc := 156) C dX8_side_156 8 rfl ?_
    refine V_iadd (pc := 158) C dX8_side_158 ?_
    refine V_goto (pc := 159) (tgt := 164) C dX8_side_159 (by decide) ?_
    refine V_sub [1, 2, 3, 4, 5, 7, 8, 9, 0] rfl ?_
    exact k_X8_side_164 hT hl C hr hnm htab (fun h => hk15 h) (fun h => hk40 h) h
def w_X8_side_144 (k15 : Int32 → Int32 → Int32 → Int32 → Sg → Prop) (k40 : Int32 → Int32 → Int32 → Int32 → Int32 → Int32 → Int32 → Sg → Prop) (Q : Nat → Int32 → Sg → Prop) (x1 : Int32) (x2 : Int32) (x3 : Int32) (x4 : Int32) (x5 : Int32) (x6 : Int32) (x7 : Int32) (x9 : Int32) (S : Sg) : Prop := w_X8_side_145 k15 k40 Q x1 x2 x3 x4 x5 x6 x7 x9 0 S
theorem k_X8_side_144 (hT : xT X = tb1) (hl : l.stackTraces = false) (C : Cn X k0 p l R s m meth c cX8_side RX8 11 2 22) (hr : meth.sig.returnType = (some .int)) (hnm : meth.name = yX8_side.name) (htab : ∀ x ∈ c.exceptionTable.toList, False) {k15 : Int32 → Int32 → Int32 → Int32 → Sg → Prop} (hk15 : ∀ {x1 : Int32} {x2 : Int32} {x3 : Int32} {x4 : Int32} {S : Sg}, k15 x1 x2 x3 x4 S → V X p l e R s m args below meth c 11 (QM X below args s S0 ad0 rvI Qa) S0 ad0 S 15 [(0, Value.ref (enc 12 0)), (1, Value.int x1), (2, Value.int x2), (3, Value.int x3), (4, Value.int x4)] []) {k40 : Int32 → Int32 → Int32 → Int32 → Int32 → Int32 → Int32 → Sg → Prop} (hk40 : ∀ {x1 : Int32} {x2 : Int32} {x3 : Int32} {x4 : Int32} {x5 : Int32} {x6 : Int32} {x7 : Int32} {S : Sg}, k40 x1 x2 x3 x4 x5 x6 x7 S → V X p l e R s m args below meth c 11 (QM X below args s S0 ad0 rvI Qa) S0 ad0 S 40 [(0, Value.ref (enc 12 0)), (1, Value.int x1), (2, Value.int x2), (3, Value.int x3), (4, Value.int x4), (5, Value.int x5), (6, Value.int x6), (7, Value.int x7)] []) {x1 : Int32} {x2 : Int32} {x3 : Int32} {x4 : Int32} {x5 : Int32} {x6 : Int32} {x7 : Int32} {x9 : Int32} {S : Sg} (h : w_X8_side_144 k15 k40 Qa x1 x2 x3 x4 x5 x6 x7 x9 S) : V X p l e R s m args below meth c 11 (QM X below args s S0 ad0 rvI Qa) S0 ad0 S 144 [(0, Value.ref (enc 12 0)), (1, Value.int x1), (2, Value.int x2), (3, Value.int x3), (4, Value.int x4), (5, Value.int x5), (6, Value.int x6), (7, Value.int x7), (9, Value.int x9)] [] := by
  refine V_iconst (pc := 144) C (v := 0) dX8_side_144 rfl ?_
  refine V_sub [0, 1, 2, 3, 4, 5, 6, 7, 8] rfl ?_
  exact k_X8_side_145 hT hl C hr hnm htab (fun h => hk15 h) (fun h => hk40 h) h
def w_X8_side_140 (k15 : Int32 → Int32 → Int32 → Int32 → Sg → Prop) (k40 : Int32 → Int32 → Int32 → Int32 → Int32 → Int32 → Int32 → Sg → Prop) (Q : Nat → Int32 → Sg → Prop) (x1 : Int32) (x2 : Int32) (x3 : Int32) (x4 : Int32) (x5 : Int32) (x6 : Int32) (x7 : Int32) (x9 : Int32) (S : Sg) : Prop := w_X8_side_145 k15 k40 Q x1 x2 x3 x4 x5 x6 x7 x9 1 S
theorem k_X8_side_140 (hT : xT X = tb1) (hl : l.stackTraces = false) (C : Cn X k0 p l R s m meth c cX8_side RX8 11 2 22) (hr : meth.sig.returnType = (some .int)) (hnm : meth.name = yX8_side.name) (htab : ∀ x ∈ c.exceptionTable.toList, False) {k15 : Int32 → Int32 → Int32 → Int32 → Sg → Prop} (hk15 : ∀ {x1 : Int32} {x2 : Int32} {x3 : Int32} {x4 : Int32} {S : Sg}, k15 x1 x2 x3 x4 S → V X p l e R s m args below meth c 11 (QM X below args s S0 ad0 rvI Qa) S0 ad0 S 15 [(0, Value.ref (enc 12 0)), (1, Value.int x1), (2, Value.int x2), (3, Value.int x3), (4, Value.int x4)] []) {k40 : Int32 → Int32 → Int32 → Int32 → Int32 → Int32 → Int32 → Sg → Prop} (hk40 : ∀ {x1 : Int32} {x2 : Int32} {x3 : Int32} {x4 : Int32} {x5 : Int32} {x6 : Int32} {x7 : Int32} {S : Sg}, k40 x1 x2 x3 x4 x5 x6 x7 S → V X p l e R s m args below meth c 11 (QM X below args s S0 ad0 rvI Qa) S0 ad0 S 40 [(0, Value.ref (enc 12 0)), (1, Value.int x1), (2, Value.int x2), (3, Value.int x3), (4, Value.int x4), (5, Value.int x5), (6, Value.int x6), (7, Value.int x7)] []) {x1 : Int32} {x2 : Int32} {x3 : Int32} {x4 : Int32} {x5 : Int32} {x6 : Int32} {x7 : Int32} {x9 : Int32} {S : Sg} (h : w_X8_side_140 k15 k40 Qa x1 x2 x3 x4 x5 x6 x7 x9 S) : V X p l e R s m args below meth c 11 (QM X below args s S0 ad0 rvI Qa) S0 ad0 S 140 [(0, Value.ref (enc 12 0)), (1, Value.int x1), (2, Value.int x2), (3, Value.int x3), (4, Value.int x4), (5, Value.int x5), (6, Value.int x6), (7, Value.int x7), (9, Value.int x9)] [] := by
  refine V_iconst (pc := 140) C (v := 1) dX8_side_140 rfl ?_
  refine V_goto (pc := 141) (tgt := 145) C dX8_side_141 (by decide) ?_
  refine V_sub [0, 1, 2, 3, 4, 5, 6, 7, 8] rfl ?_
  exact k_X8_side_145 hT hl C hr hnm htab (fun h => hk15 h) (fun h => hk40 h) h
def w_X8_side_120 (k15 : Int32 → Int32 → Int32 → Int32 → Sg → Prop) (k40 : Int32 → Int32 → Int32 → Int32 → Int32 → Int32 → Int32 → Sg → Prop) (Q : Nat → Int32 → Sg → Prop) (x1 : Int32) (x2 : Int32) (x3 : Int32) (x4 : Int32) (x5 : Int32) (x6 : Int32) (x7 : Int32) (x8 : Int32) (y0 : Int32) (S : Sg) : Prop := ((x8 = 0 → w_X8_side_144 k15 k40 Q x1 x2 x3 x4 x5 x6 x7 y0 S) ∧ (¬ x8 = 0 → ((x5 = (-1) → w_X8_side_140 k15 k40 Q x1 x2 x3 x4 x5 x6 x7 y0 S) ∧ (¬ x5 = (-1) → ((x6 ≤ y0 → w_X8_side_144 k15 k40 Q x1 x2 x3 x4 x5 x6 x7 y0 S) ∧ (¬ x6 ≤ y0 → w_X8_side_140 k15 k40 Q x1 x2 x3 x4 x5 x6 x7 y0 S))))))
theorem k_X8_side_120 (hT : xT X = tb1) (hl : l.stackTraces = false) (C : Cn X k0 p l R s m meth c cX8_side RX8 11 2 22) (hr : meth.sig.returnType = (some .int)) (hnm : meth.name = yX8_side.name) (htab : ∀ x ∈ c.exceptionTable.toList, False) {k15 : Int32 → Int32 → Int32 → Int32 → Sg → Prop} (hk15 : ∀ {x1 : Int32} {x2 : Int32} {x3 : Int32} {x4 : Int32} {S : Sg}, k15 x1 x2 x3 x4 S → V X p l e R s m args below meth c 11 (QM X below args s S0 ad0 rvI Qa) S0 ad0 S 15 [(0, Value.ref (enc 12 0)), (1, Value.int x1), (2, Value.int x2), (3, Value.int x3), (4, Value.int x4)] []) {k40 : Int32 → Int32 → Int32 → Int32 → Int32 → Int32 → Int32 → Sg → Prop} (hk40 : ∀ {x1 : Int32} {x2 : Int32} {x3 : Int32} {x4 : Int32} {x5 : Int32} {x6 : Int32} {x7 : Int32} {S : Sg}, k40 x1 x2 x3 x4 x5 x6 x7 S → V X p l e R s m args below meth c 11 (QM X below args s S0 ad0 rvI Qa) S0 ad0 S 40 [(0, Value.ref (enc 12 0)), (1, Value.int x1), (2, Value.int x2), (3, Value.int x3), (4, Value.int x4), (5, Value.int x5), (6, Value.int x6), (7, Value.int x7)] []) {x1 : Int32} {x2 : Int32} {x3 : Int32} {x4 : Int32} {x5 : Int32} {x6 : Int32} {x7 : Int32} {x8 : Int32} {y0 : Int32} {S : Sg} (h : w_X8_side_120 k15 k40 Qa x1 x2 x3 x4 x5 x6 x7 x8 y0 S) : V X p l e R s m args below meth c 11 (QM X below args s S0 ad0 rvI Qa) S0 ad0 S 120 [(0, Value.ref (enc 12 0)), (1, Value.int x1), (2, Value.int x2), (3, Value.int x3), (4, Value.int x4), (5, Value.int x5), (6, Value.int x6), (7, Value.int x7), (8, Value.int x8)] [Value.int y0] := by
  refine V_istore (pc := 120) C dX8_side_120 (by decide) rfl ?_
  refine V_iload (pc := 122) C dX8_side_122 9 rfl ?_
  refine V_if_eq (pc := 124) (tgt := 144) C dX8_side_124 (by decide) h (fun h => ?_) (fun h => ?_)
  · refine V_sub [1, 2, 3, 4, 5, 6, 7, 8, 0] rfl ?_
    exact k_X8_side_144 hT hl C hr hnm htab (fun h => hk15 h) (fun h => hk40 h) h
  · refine V_iload (pc := 127) C dX8_side_127 6 rfl ?_
    refine V_iconst (pc := 129) C (v := (-1)) dX8_side_129 rfl ?_
    refine V_icmp_eq (pc := 130) (tgt := 140) C dX8_side_130 (by decide) h (fun h => ?_) (fun h => ?_)
    · refine V_sub [1, 2, 3, 4, 5, 6, 7, 8, 0] rfl ?_
      exact k_X8_side_140 hT hl C hr hnm htab (fun h => hk15 h) (fun h => hk40 h) h
    · refine V_iload (pc := 133) C dX8_side_133 0 rfl ?_
      refine V_iload (pc := 135) C dX8_side_135 7 rfl ?_
      refine V_icmp_ge (pc := 137) (tgt := 144) C dX8_side_137 (by decide) h (fun h => ?_) (fun h => ?_)
      · refine V_sub [1, 2, 3, 4, 5, 6, 7, 8, 0] rfl ?_
        exact k_X8_side_144 hT hl C hr hnm htab (fun h => hk15 h) (fun h => hk40 h) h
      · refine V_sub [1, 2, 3, 4, 5, 6, 7, 8, 0] rfl ?_
        exact k_X8_side_140 hT hl C hr hnm htab (fun h => hk15 h) (fun h => hk40 h) h
def w_X8_side_89 (k15 : Int32 → Int32 → Int32 → Int32 → Sg → Prop) (k40 : Int32 → Int32 → Int32 → Int32 → Int32 → Int32 → Int32 → Sg → Prop) (k55 : Int32 → Int32 → Int32 → Int32 → Int32 → Int32 → Int32 → Int32 → Int32 → Sg → Prop) (Q : Nat → Int32 → Sg → Prop) (x1 : Int32) (x2 : Int32) (x3 : Int32) (x4 : Int32) (x5 : Int32) (x6 : Int32) (x7 : Int32) (x9 : Int32) (y0 : Int32) (S : Sg) : Prop := k55 x1 x2 x3 x4 x5 x6 x7 y0 (x9 + 1) S
theorem k_X8_side_89 (hT : xT X = tb1) (hl : l.stackTraces = false) (C : Cn X k0 p l R s m meth c cX8_side RX8 11 2 22) (hr : meth.sig.returnType = (some .int)) (hnm : meth.name = yX8_side.name) (htab : ∀ x ∈ c.exceptionTable.toList, False) {k15 : Int32 → Int32 → Int32 → Int32 → Sg → Prop} (hk15 : ∀ {x1 : Int32} {x2 : Int32} {x3 : Int32} {x4 : Int32} {S : Sg}, k15 x1 x2 x3 x4 S → V X p l e R s m args below meth c 11 (QM X below args s S0 ad0 rvI Qa) S0 ad0 S 15 [(0, Value.ref (enc 12 0)), (1, Value.int x1), (2, Value.int x2), (3, Value.int x3), (4, Value.int x4)] []) {k40 : Int32 → Int32 → Int32 → Int32 → Int32 → Int32 → Int32 → Sg → Prop} (hk40 : ∀ {x1 : Int32} {x2 : Int32} {x3 : Int32} {x4 : Int32} {x5 : Int32} {x6 : Int32} {x7 : Int32} {S : Sg}, k40 x1 x2 x3 x4 x5 x6 x7 S → V X p l e R s m args below meth c 11 (QM X below args s S0 ad0 rvI Qa) S0 ad0 S 40 [(0, Value.ref (enc 12 0)), (1, Value.int x1), (2, Value.int x2), (3, Value.int x3), (4, Value.int x4), (5, Value.int x5), (6, Value.int x6), (7, Value.int x7)] []) {k55 : Int32 → Int32 → Int32 → Int32 → Int32 → Int32 → Int32 → Int32 → Int32 → Sg → Prop} (hk55 : ∀ {x1 : Int32} {x2 : Int32} {x3 : Int32} {x4 : Int32} {x5 : Int32} {x6 : Int32} {x7 : Int32} {x8 : Int32} {x9 : Int32} {S : Sg}, k55 x1 x2 x3 x4 x5 x6 x7 x8 x9 S → V X p l e R s m args below meth c 11 (QM X below args s S0 ad0 rvI Qa) S0 ad0 S 55 [(0, Value.ref (enc 12 0)), (1, Value.int x1), (2, Value.int x2), (3, Value.int x3), (4, Value.int x4), (5, Value.int x5), (6, Value.int x6), (7, Value.int x7), (8, Value.int x8), (9, Value.int x9)] []) {x1 : Int32} {x2 : Int32} {x3 : Int32} {x4 : Int32} {x5 : Int32} {x6 : Int32} {x7 : Int32} {x9 : Int32} {y0 : Int32} {S : Sg} (h : w_X8_side_89 k15 k40 k55 Qa x1 x2 x3 x4 x5 x6 x7 x9 y0 S) : V X p l e R s m args below meth c 11 (QM X below args s S0 ad0 rvI Qa) S0 ad0 S 89 [(0, Value.ref (enc 12 0)), (1, Value.int x1), (2, Value.int x2), (3, Value.int x3), (4, Value.int x4), (5, Value.int x5), (6, Value.int x6), (7, Value.int x7), (9, Value.int x9)] [Value.int y0] := by
  refine V_istore (pc := 89) C dX8_side_89 (by decide) rfl ?_
  refine V_iinc (pc := 91) C (a := 9) (v := x9 + 1) dX8_side_91 rfl rfl (by decide) rfl ?_
  refine V_goto (pc := 94) (tgt := 55) C dX8_side_94 (by decide) ?_
  refine V_sub [2, 3, 4, 5, 6, 7, 8, 9, 1, 0] rfl ?_
  exact hk55 h
def w_X8_side_88 (k15 : Int32 → Int32 → Int32 → Int32 → Sg → Prop) (k40 : Int32 → Int32 → Int32 → Int32 → Int32 → Int32 → Int32 → Sg → Prop) (k55 : Int32 → Int32 → Int32 → Int32 → Int32 → Int32 → Int32 → Int32 → Int32 → Sg → Prop) (Q : Nat → Int32 → Sg → Prop) (x1 : Int32) (x2 : Int32) (x3 : Int32) (x4 : Int32) (x5 : Int32) (x6 : Int32) (x7 : Int32) (x9 : Int32) (S : Sg) : Prop := w_X8_side_89 k15 k40 k55 Q x1 x2 x3 x4 x5 x6 x7 x9 0 S
theorem k_X8_side_88 (hT : xT X = tb1) (hl : l.stackTraces = false) (C : Cn X k0 p l R s m meth c cX8_side RX8 11 2 22) (hr : meth.sig.returnType = (some .int)) (hnm : meth.name = yX8_side.name) (htab : ∀ x ∈ c.exceptionTable.toList, False) {k15 : Int32 → Int32 → Int32 → Int32 → Sg → Prop} (hk15 : ∀ {x1 : Int32} {x2 : Int32} {x3 : Int32} {x4 : Int32} {S : Sg}, k15 x1 x2 x3 x4 S → V X p l e R s m args below meth c 11 (QM X below args s S0 ad0 rvI Qa) S0 ad0 S 15 [(0, Value.ref (enc 12 0)), (1, Value.int x1), (2, Value.int x2), (3, Value.int x3), (4, Value.int x4)] []) {k40 : Int32 → Int32 → Int32 → Int32 → Int32 → Int32 → Int32 → Sg → Prop} (hk40 : ∀ {x1 : Int32} {x2 : Int32} {x3 : Int32} {x4 : Int32} {x5 : Int32} {x6 : Int32} {x7 : Int32} {S : Sg}, k40 x1 x2 x3 x4 x5 x6 x7 S → V X p l e R s m args below meth c 11 (QM X below args s S0 ad0 rvI Qa) S0 ad0 S 40 [(0, Value.ref (enc 12 0)), (1, Value.int x1), (2, Value.int x2), (3, Value.int x3), (4, Value.int x4), (5, Value.int x5), (6, Value.int x6), (7, Value.int x7)] []) {k55 : Int32 → Int32 → Int32 → Int32 → Int32 → Int32 → Int32 → Int32 → Int32 → Sg → Prop} (hk55 : ∀ {x1 : Int32} {x2 : Int32} {x3 : Int32} {x4 : Int32} {x5 : Int32} {x6 : Int32} {x7 : Int32} {x8 : Int32} {x9 : Int32} {S : Sg}, k55 x1 x2 x3 x4 x5 x6 x7 x8 x9 S → V X p l e R s m args below meth c 11 (QM X below args s S0 ad0 rvI Qa) S0 ad0 S 55 [(0, Value.ref (enc 12 0)), (1, Value.int x1), (2, Value.int x2), (3, Value.int x3), (4, Value.int x4), (5, Value.int x5), (6, Value.int x6), (7, Value.int x7), (8, Value.int x8), (9, Value.int x9)] []) {x1 : Int32} {x2 : Int32} {x3 : Int32} {x4 : Int32} {x5 : Int32} {x6 : Int32} {x7 : Int32} {x9 : Int32} {S : Sg} (h : w_X8_side_88 k15 k40 k55 Qa x1 x2 x3 x4 x5 x6 x7 x9 S) : V X p l e R s m args below meth c 11 (QM X below args s S0 ad0 rvI Qa) S0 ad0 S 88 [(0, Value.ref (enc 12 0)), (1, Value.int x1), (2, Value.int x2), (3, Value.int x3), (4, Value.int x4), (5, Value.int x5), (6, Value.int x6), (7, Value.int x7), (9, Value.int x9)] [] := by
  refine V_iconst (pc := 88) C (v := 0) dX8_side_88 rfl ?_
  refine V_sub [0, 1, 2, 3, 4, 5, 6, 7, 8] rfl ?_
  exact k_X8_side_89 hT hl C hr hnm htab (fun h => hk15 h) (fun h => hk40 h) (fun h => hk55 h) h
def w_X8_side_55 (k15 : Int32 → Int32 → Int32 → Int32 → Sg → Prop) (k40 : Int32 → Int32 → Int32 → Int32 → Int32 → Int32 → Int32 → Sg → Prop) (Q : Nat → Int32 → Sg → Prop) : Nat → Int32 → Int32 → Int32 → Int32 → Int32 → Int32 → Int32 → Int32 → Int32 → Sg → Prop
  | 0, _, _, _, _, _, _, _, _, _, _ => False
  | n + 1, x1, x2, x3, x4, x5, x6, x7, x8, x9, S => (((x7 + x2) ≤ x9 → (∀ v1, v1 = ((2 * x7) + x2) - x3 → ((0 ≤ v1 → w_X8_side_120 k15 k40 Q x1 x2 x3 x4 x5 x6 x7 x8 v1 S) ∧ (¬ 0 ≤ v1 → w_X8_side_120 k15 k40 Q x1 x2 x3 x4 x5 x6 x7 x8 (-v1) S)))) ∧ (¬ (x7 + x2) ≤ x9 → ((x8 = 0 → w_X8_side_88 k15 k40 (fun x1 x2 x3 x4 x5 x6 x7 x8 x9 S => w_X8_side_55 k15 k40 Q n x1 x2 x3 x4 x5 x6 x7 x8 x9 S) Q x1 x2 x3 x4 x5 x6 x7 x9 S) ∧ (¬ x8 = 0 → (w_X8_isFree x1 ((x3 * x4) + x9) S (fun k4 v3 S2 => (k4 = 0 → ((v3 = 0 → w_X8_side_88 k15 k40 (fun x1 x2 x3 x4 x5 x6 x7 x8 x9 S => w_X8_side_55 k15 k40 Q n x1 x2 x3 x4 x5 x6 x7 x8 x9 S) Q x1 x2 x3 x4 x5 x6 x7 x9 S2) ∧ (¬ v3 = 0 → w_X8_side_89 k15 k40 (fun x1 x2 x3 x4 x5 x6 x7 x8 x9 S => w_X8_side_55 k15 k40 Q n x1 x2 x3 x4 x5 x6 x7 x8 x9 S) Q x1 x2 x3 x4 x5 x6 x7 x9 1 S2))) ∧ (¬ k4 = 0 → Q k4 0 S2)))))))
theorem k_X8_side_55 (hT : xT X = tb1) (hl : l.stackTraces = false) (C : Cn X k0 p l R s m meth c cX8_side RX8 11 2 22) (hr : meth.sig.returnType = (some .int)) (hnm : meth.name = yX8_side.name) (htab : ∀ x ∈ c.exceptionTable.toList, False) {k15 : Int32 → Int32 → Int32 → Int32 → Sg → Prop} (hk15 : ∀ {x1 : Int32} {x2 : Int32} {x3 : Int32} {x4 : Int32} {S : Sg}, k15 x1 x2 x3 x4 S → V X p l e R s m args below meth c 11 (QM X below args s S0 ad0 rvI Qa) S0 ad0 S 15 [(0, Value.ref (enc 12 0)), (1, Value.int x1), (2, Value.int x2), (3, Value.int x3), (4, Value.int x4)] []) {k40 : Int32 → Int32 → Int32 → Int32 → Int32 → Int32 → Int32 → Sg → Prop} (hk40 : ∀ {x1 : Int32} {x2 : Int32} {x3 : Int32} {x4 : Int32} {x5 : Int32} {x6 : Int32} {x7 : Int32} {S : Sg}, k40 x1 x2 x3 x4 x5 x6 x7 S → V X p l e R s m args below meth c 11 (QM X below args s S0 ad0 rvI Qa) S0 ad0 S 40 [(0, Value.ref (enc 12 0)), (1, Value.int x1), (2, Value.int x2), (3, Value.int x3), (4, Value.int x4), (5, Value.int x5), (6, Value.int x6), (7, Value.int x7)] []) : ∀ n {x1 : Int32} {x2 : Int32} {x3 : Int32} {x4 : Int32} {x5 : Int32} {x6 : Int32} {x7 : Int32} {x8 : Int32} {x9 : Int32} {S : Sg}, w_X8_side_55 k15 k40 Qa n x1 x2 x3 x4 x5 x6 x7 x8 x9 S → V X p l e R s m args below meth c 11 (QM X below args s S0 ad0 rvI Qa) S0 ad0 S 55 [(0, Value.ref (enc 12 0)), (1, Value.int x1), (2, Value.int x2), (3, Value.int x3), (4, Value.int x4), (5, Value.int x5), (6, Value.int x6), (7, Value.int x7), (8, Value.int x8), (9, Value.int x9)] [] := by
  intro n
  induction n with
  | zero => intro x1 x2 x3 x4 x5 x6 x7 x8 x9 S h; exact h.elim
  | succ n ih =>
    intro x1 x2 x3 x4 x5 x6 x7 x8 x9 S h
    refine V_iload (pc := 55) C dX8_side_55 9 rfl ?_
    refine V_iload (pc := 57) C dX8_side_57 7 rfl ?_
    refine V_iload_n (pc := 59) C dX8_side_59 rfl 2 rfl ?_
    refine V_iadd (pc := 60) C dX8_side_60 ?_
    refine V_icmp_ge (pc := 61) (tgt := 97) C dX8_side_61 (by decide) h (fun h => ?_) (fun h => ?_)
    · refine V_iconst (pc := 97) C (v := 2) dX8_side_97 rfl ?_
      refine V_iload (pc := 98) C dX8_side_98 7 rfl ?_
      refine V_imul (pc := 100) C dX8_side_100 ?_
      refine V_iload_n (pc := 101) C dX8_side_101 rfl 2 rfl ?_
      refine V_iadd (pc := 102) C dX8_side_102 ?_
      refine V_iload_n (pc := 103) C dX8_side_103 rfl 3 rfl ?_
      refine V_isub (pc := 104) C dX8_side_104 ?_
      refine V_nI fun v1 e9 => ?_
      replace h := h v1 e9; clear e9
      refine V_istore (pc := 105) C dX8_side_105 (by decide) rfl ?_
      refine V_iload (pc := 107) C dX8_side_107 0 rfl ?_
      refine V_if_ge (pc := 109) (tgt := 118) C dX8_side_109 (by decide) h (fun h => ?_) (fun h => ?_)
      · refine V_iload (pc := 118) C dX8_side_118 0 rfl ?_
        refine V_sub [1, 2, 3, 4, 5, 6, 7, 8, 9] rfl ?_
        exact k_X8_side_120 hT hl C hr hnm htab (fun h => hk15 h) (fun h => hk40 h) h
      · refine V_iload (pc := 112) C dX8_side_112 0 rfl ?_
        refine V_ineg (pc := 114) C dX8_side_114 ?_
        refine V_goto (pc := 115) (tgt := 120) C dX8_side_115 (by decide) ?_
        refine V_sub [1, 2, 3, 4, 5, 6, 7, 8, 9] rfl ?_
        exact k_X8_side_120 hT hl C hr hnm htab (fun h => hk15 h) (fun h => hk40 h) h
    · refine V_iload (pc := 64) C dX8_side_64 8 rfl ?_
      refine V_if_eq (pc := 66) (tgt := 88) C dX8_side_66 (by decide) h (fun h => ?_) (fun h => ?_)
      · refine V_sub [0, 1, 2, 3, 4, 5, 6, 7, 9] rfl ?_
        exact k_X8_side_88 hT hl C hr hnm htab (fun h => hk15 h) (fun h => hk40 h) (fun h => ih h) h
      · refine V_aload_n (pc := 69) C dX8_side_69 rfl 0 rfl ?_
        refine V_iload_n (pc := 70) C dX8_side_70 rfl 1 rfl ?_
        refine V_iload_n (pc := 71) C dX8_side_71 rfl 3 rfl ?_
        refine V_iload (pc := 72) C dX8_side_72 4 rfl ?_
        refine V_imul (pc := 74) C dX8_side_74 ?_
        refine V_iload (pc := 75) C dX8_side_75 9 rfl ?_
        refine V_iadd (pc := 77) C dX8_side_77 ?_
        refine V_callV (pc := 78) C (ct_X8_isFree hT hl h) g1218 g1220 g46 g1221 g64 ⟨by decide, by decide, pl_X8_isFree⟩ (enc_ne63 (by decide)) (ct_obj hT rfl (by decide)) rfl ⟨by decide, by decide⟩ (rest := []) rfl (le8 rfl) dX8_side_78 (fun v3 S2 h => ?_) (fun k9 S9 hk h => VX_out C htab hk (h.2 (by omega)))
        replace h := h.1 rfl
        refine V_st (st' := [Value.int v3]) rfl ?_
        refine V_if_eq (pc := 81) (tgt := 88) C dX8_side_81 (by decide) h (fun h => ?_) (fun h => ?_)
        · refine V_sub [0, 1, 2, 3, 4, 5, 6, 7, 9] rfl ?_
          exact k_X8_side_88 hT hl C hr hnm htab (fun h => hk15 h) (fun h => hk40 h) (fun h => ih h) h
        · refine V_iconst (pc := 84) C (v := 1) dX8_side_84 rfl ?_
          refine V_goto (pc := 85) (tgt := 89) C dX8_side_85 (by decide) ?_
          refine V_sub [0, 1, 2, 3, 4, 5, 6, 7, 9] rfl ?_
          exact k_X8_side_89 hT hl C hr hnm htab (fun h => hk15 h) (fun h => hk40 h) (fun h => ih h) h
def w_X8_side_40 (k15 : Int32 → Int32 → Int32 → Int32 → Sg → Prop) (Q : Nat → Int32 → Sg → Prop) : Nat → Int32 → Int32 → Int32 → Int32 → Int32 → Int32 → Int32 → Sg → Prop
  | 0, _, _, _, _, _, _, _, _ => False
  | n + 1, x1, x2, x3, x4, x5, x6, x7, S => ((x3 < (x7 + x2) → ((x5 = (-1) → k15 x1 x2 x3 (x4 + 1) S) ∧ (¬ x5 = (-1) → Q 0 x5 S))) ∧ (¬ x3 < (x7 + x2) → ∃ n9, w_X8_side_55 k15 (fun x1 x2 x3 x4 x5 x6 x7 S => w_X8_side_40 k15 Q n x1 x2 x3 x4 x5 x6 x7 S) Q n9 x1 x2 x3 x4 x5 x6 x7 1 x7 S))
theorem k_X8_side_40 (hT : xT X = tb1) (hl : l.stackTraces = false) (C : Cn X k0 p l R s m meth c cX8_side RX8 11 2 22) (hr : meth.sig.returnType = (some .int)) (hnm : meth.name = yX8_side.name) (htab : ∀ x ∈ c.exceptionTable.toList, False) {k15 : Int32 → Int32 → Int32 → Int32 → Sg → Prop} (hk15 : ∀ {x1 : Int32} {x2 : Int32} {x3 : Int32} {x4 : Int32} {S : Sg}, k15 x1 x2 x3 x4 S → V X p l e R s m args below meth c 11 (QM X below args s S0 ad0 rvI Qa) S0 ad0 S 15 [(0, Value.ref (enc 12 0)), (1, Value.int x1), (2, Value.int x2), (3, Value.int x3), (4, Value.int x4)] []) : ∀ n {x1 : Int32} {x2 : Int32} {x3 : Int32} {x4 : Int32} {x5 : Int32} {x6 : Int32} {x7 : Int32} {S : Sg}, w_X8_side_40 k15 Qa n x1 x2 x3 x4 x5 x6 x7 S → V X p l e R s m args below meth c 11 (QM X below args s S0 ad0 rvI Qa) S0 ad0 S 40 [(0, Value.ref (enc 12 0)), (1, Value.int x1), (2, Value.int x2), (3, Value.int x3), (4, Value.int x4), (5, Value.int x5), (6, Value.int x6), (7, Value.int x7)] [] := by
  intro n
  induction n with
  | zero => intro x1 x2 x3 x4 x5 x6 x7 S h; exact h.elim
  | succ n ih =>
    intro x1 x2 x3 x4 x5 x6 x7 S h
    refine V_iload (pc := 40) C dX8_side_40 7 rfl ?_
    refine V_iload_n (pc := 42) C dX8_side_42 rfl 2 rfl ?_
    refine V_iadd (pc := 43) C dX8_side_43 ?_
    refine V_iload_n (pc := 44) C dX8_side_44 rfl 3 rfl ?_
    refine V_icmp_gt (pc := 45) (tgt := 186) C dX8_side_45 (by decide) h (fun h => ?_) (fun h => ?_)
    · refine V_iload (pc := 186) C dX8_side_186 5 rfl ?_
      refine V_iconst (pc := 188) C (v := (-1)) dX8_side_188 rfl ?_
      refine V_icmp_eq (pc := 189) (tgt := 195) C dX8_side_189 (by decide) h (fun h => ?_) (fun h => ?_)
      · refine V_iinc (pc := 195) C (a := 4) (v := x4 + 1) dX8_side_195 rfl rfl (by decide) rfl ?_
        refine V_goto (pc := 198) (tgt := 15) C dX8_side_198 (by decide) ?_
        refine V_sub [1, 2, 3, 4, 0] rfl ?_
        exact hk15 h
      · refine V_iload (pc := 192) C dX8_side_192 5 rfl ?_
        exact V_iret (pc := 194) C hr rfl h dX8_side_194
    · refine V_iconst (pc := 48) C (v := 1) dX8_side_48 rfl ?_
      refine V_istore (pc := 49) C dX8_side_49 (by decide) rfl ?_
      refine V_iload (pc := 51) C dX8_side_51 8 rfl ?_
      refine V_istore (pc := 53) C dX8_side_53 (by decide) rfl ?_
      refine V_sub [2, 3, 4, 5, 6, 7, 8, 9, 1, 0] rfl ?_
      obtain ⟨n9, h⟩ := h
      exact k_X8_side_55 hT hl C hr hnm htab (fun h => hk15 h) (fun h => ih h) n9 h
def w_X8_side_15  (Q : Nat → Int32 → Sg → Prop) : Nat → Int32 → Int32 → Int32 → Int32 → Sg → Prop
  | 0, _, _, _, _, _ => False
  | n + 1, x1, x2, x3, x4, S => (vp_in x1 30 ∧ (vp_in (S.1 123 (nt x1)) 4 ∧ (((S.1 103 (nt (S.1 123 (nt x1)))) ≤ x4 → Q 0 (-1) S) ∧ (¬ (S.1 103 (nt (S.1 123 (nt x1)))) ≤ x4 → ∃ n9, w_X8_side_40 (fun x1 x2 x3 x4 S => w_X8_side_15  Q n x1 x2 x3 x4 S) Q n9 x1 x2 x3 x4 (-1) 0 0 S))))
theorem k_X8_side_15 (hT : xT X = tb1) (hl : l.stackTraces = false) (C : Cn X k0 p l R s m meth c cX8_side RX8 11 2 22) (hr : meth.sig.returnType = (some .int)) (hnm : meth.name = yX8_side.name) (htab : ∀ x ∈ c.exceptionTable.toList, False)  : ∀ n {x1 : Int32} {x2 : Int32} {x3 : Int32} {x4 : Int32} {S : Sg}, w_X8_side_15  Qa n x1 x2 x3 x4 S → V X p l e R s m args below meth c 11 (QM X below args s S0 ad0 rvI Qa) S0 ad0 S 15 [(0, Value.ref (enc 12 0)), (1, Value.int x1), (2, Value.int x2), (3, Value.int x3), (4, Value.int x4)] [] := by
  intro n
  induction n with
  | zero => intro x1 x2 x3 x4 S h; exact h.elim
  | succ n ih =>
    intro x1 x2 x3 x4 S h
    refine V_iload (pc := 15) C dX8_side_15 4 rfl ?_
    refine V_aload_n (pc := 17) C dX8_side_17 rfl 0 rfl ?_
    refine V_getF (pc := 18) C hT f1_X8_3 g981 dX8_side_18 ?_
    refine V_aload_n (pc := 21) C dX8_side_21 rfl 0 rfl ?_
    refine V_getF (pc := 22) C hT f1_X8_23 g1001 dX8_side_22 ?_
    refine V_iload_n (pc := 25) C dX8_side_25 rfl 1 rfl ?_
    refine V_mld (pc := 26) C hT tb1_arr (n := 30) (c9 := 123) rfl rfl rfl h dX8_side_26 (fun h => ?_)
    refine V_mld (pc := 27) C hT tb1_arr (n := 4) (c9 := 103) rfl rfl rfl h dX8_side_27 (fun h => ?_)
    refine V_icmp_ge (pc := 28) (tgt := 201) C dX8_side_28 (by decide) h (fun h => ?_) (fun h => ?_)
    · refine V_iconst (pc := 201) C (v := (-1)) dX8_side_201 rfl ?_
      exact V_iret (pc := 202) C hr rfl h dX8_side_202
    · refine V_iconst (pc := 31) C (v := (-1)) dX8_side_31 rfl ?_
      refine V_istore (pc := 32) C dX8_side_32 (by decide) rfl ?_
      refine V_iconst (pc := 34) C (v := 0) dX8_side_34 rfl ?_
      refine V_istore (pc := 35) C dX8_side_35 (by decide) rfl ?_
      refine V_iconst (pc := 37) C (v := 0) dX8_side_37 rfl ?_
      refine V_istore (pc := 38) C dX8_side_38 (by decide) rfl ?_
      refine V_sub [3, 4, 5, 6, 7, 2, 1, 0] rfl ?_
      obtain ⟨n9, h⟩ := h
      exact k_X8_side_40 hT hl C hr hnm htab (fun h => ih h) n9 h
def w_X8_side (a1 : Int32) (a2 : Int32) (S : Sg) (Q : Nat → Int32 → Sg → Prop) : Prop := (vp_in a1 30 ∧ (vp_in (S.1 123 (nt a1)) 4 ∧ (∀ v5, v5 = S.1 104 (nt (S.1 123 (nt a1))) → ∃ n9, w_X8_side_15  Q n9 a1 a2 v5 0 S)))
theorem ct_X8_side (hT : xT X = tb1) (hl : l.stackTraces = false) {a1 : Int32} {a2 : Int32} {S : Sg} (h : w_X8_side a1 a2 S Qa) : CT X k0 l yX8_side cX8_side 11 (some .int) 2 22 [Value.ref (enc 12 0), Value.int a1, Value.int a2] rvI S Qa :=
  CT_ofV (own := RX8) (by decide +kernel) (le8 rfl) rfl hl fun p e R s m args below meth c ad0 C hr hnm htab => by
    refine V_aload_n (pc := 0) C dX8_side_0 rfl 0 rfl ?_
    refine V_getF (pc := 1) C hT f1_X8_4 g982 dX8_side_1 ?_
    refine V_aload_n (pc := 4) C dX8_side_4 rfl 0 rfl ?_
    refine V_getF (pc := 5) C hT f1_X8_23 g1001 dX8_side_5 ?_
    refine V_iload_n (pc := 8) C dX8_side_8 rfl 1 rfl ?_
    refine V_mld (pc := 9) C hT tb1_arr (n := 30) (c9 := 123) rfl rfl rfl h dX8_side_9 (fun h => ?_)
    refine V_mld (pc := 10) C hT tb1_arr (n := 4) (c9 := 104) rfl rfl rfl h dX8_side_10 (fun h => ?_)
    refine V_nI fun v5 e9 => ?_
    replace h := h v5 e9; clear e9
    refine V_istore_n (pc := 11) C dX8_side_11 rfl (by decide) rfl ?_
    refine V_iconst (pc := 12) C (v := 0) dX8_side_12 rfl ?_
    refine V_istore (pc := 13) C dX8_side_13 (by decide) rfl ?_
    refine V_sub [2, 3, 4, 1, 0] rfl ?_
    obtain ⟨n9, h⟩ := h
    exact k_X8_side_15 hT hl C hr hnm htab  n9 h
theorem pl_X8_group : (parseMethodDescriptor yX8_group.desc).map (fun d => d.parameters.length) = some 3 := by decide +kernel
def w_X8_group_142  (Q : Nat → Int32 → Sg → Prop) : Nat → Int32 → Int32 → Int32 → Int32 → Int32 → Int32 → Sg → Prop
  | 0, _, _, _, _, _, _, _ => False
  | n + 1, x1, x2, x3, x6, x7, x8, S => (((x6 + x2) ≤ x8 → Q 0 x7 S) ∧ (¬ (x6 + x2) ≤ x8 → (w_X8_sells x1 x8 x3 S (fun k3 v2 S1 => (k3 = 0 → w_X8_group_142  Q n x1 x2 x3 x6 x7 (x8 + 1) S1) ∧ (¬ k3 = 0 → Q k3 0 S1)))))
theorem k_X8_group_142 (hT : xT X = tb1) (hl : l.stackTraces = false) (C : Cn X k0 p l R s m meth c cX8_group RX8 9 3 52) (hr : meth.sig.returnType = (some .int)) (hnm : meth.name = yX8_group.name) (htab : ∀ x ∈ c.exceptionTable.toList, False)  : ∀ n {x1 : Int32} {x2 : Int32} {x3 : Int32} {x6 : Int32} {x7 : Int32} {x8 : Int32} {S : Sg}, w_X8_group_142  Qa n x1 x2 x3 x6 x7 x8 S → V X p l e R s m args below meth c 9 (QM X below args s S0 ad0 rvI Qa) S0 ad0 S 142 [(0, Value.ref (enc 12 0)), (1, Value.int x1), (2, Value.int x2), (3, Value.int x3), (6, Value.int x6), (7, Value.int x7), (8, Value.int x8)] [] := by
  intro n
  induction n with
  | zero => intro x1 x2 x3 x6 x7 x8 S h; exact h.elim
  | succ n ih =>
    intro x1 x2 x3 x6 x7 x8 S h
    refine V_iload (pc := 142) C dX8_group_142 6 rfl ?_
    refine V_iload (pc := 144) C dX8_group_144 4 rfl ?_
    refine V_iload_n (pc := 146) C dX8_group_146 rfl 2 rfl ?_
    refine V_iadd (pc := 147) C dX8_group_147 ?_
    refine V_icmp_ge (pc := 148) (tgt := 166) C dX8_group_148 (by decide) h (fun h => ?_) (fun h => ?_)
    · refine V_iload (pc := 166) C dX8_group_166 5 rfl ?_
      exact V_iret (pc := 168) C hr rfl h dX8_group_168
    · refine V_aload_n (pc := 151) C dX8_group_151 rfl 0 rfl ?_
      refine V_iload_n (pc := 152) C dX8_group_152 rfl 1 rfl ?_
      refine V_iload (pc := 153) C dX8_group_153 6 rfl ?_
      refine V_iload_n (pc := 155) C dX8_group_155 rfl 3 rfl ?_
      refine V_callV (pc := 156) C (ct_X8_sells hT hl h) g1198 g1200 g42 g1201 g64 ⟨by decide, by decide, pl_X8_sells⟩ (enc_ne63 (by decide)) (ct_obj hT rfl (by decide)) rfl ⟨by decide, by decide⟩ (rest := []) rfl (le8 rfl) dX8_group_156 (fun v2 S1 h => ?_) (fun k9 S9 hk h => VX_out C htab hk (h.2 (by omega)))
      replace h := h.1 rfl
      refine V_st (st' := [Value.int v2]) rfl ?_
      refine V_pop (pc := 159) C dX8_group_159 rfl ?_
      refine V_iinc (pc := 160) C (a := 6) (v := x8 + 1) dX8_group_160 rfl rfl (by decide) rfl ?_
      refine V_goto (pc := 163) (tgt := 142) C dX8_group_163 (by decide) ?_
      refine V_sub [1, 2, 3, 4, 5, 6, 0] rfl ?_
      exact ih h
def w_X8_group_116  (Q : Nat → Int32 → Sg → Prop) (x1 : Int32) (x2 : Int32) (x3 : Int32) (y0 : Int32) (S : Sg) : Prop := (w_X8_fails y0 S (fun k6 v5 S4 => (k6 = 0 → ((v5 = 0 → (w_X8_side x1 x2 S4 (fun k9 v8 S7 => (k9 = 0 → (∀ v10, v10 = S7.1 336 0 → ∃ n9, w_X8_group_142  Q n9 x1 x2 x3 v8 v10 v8 S7)) ∧ (¬ k9 = 0 → Q k9 0 S7)))) ∧ (¬ v5 = 0 → Q 0 0 S4))) ∧ (¬ k6 = 0 → Q k6 0 S4)))
theorem k_X8_group_116 (hT : xT X = tb1) (hl : l.stackTraces = false) (C : Cn X k0 p l R s m meth c cX8_group RX8 9 3 52) (hr : meth.sig.returnType = (some .int)) (hnm : meth.name = yX8_group.name) (htab : ∀ x ∈ c.exceptionTable.toList, False)  {x1 : Int32} {x2 : Int32} {x3 : Int32} {y0 : Int32} {S : Sg} (h : w_X8_group_116  Qa x1 x2 x3 y0 S) : V X p l e R s m args below meth c 9 (QM X below args s S0 ad0 rvI Qa) S0 ad0 S 116 [(0, Value.ref (enc 12 0)), (1, Value.int x1), (2, Value.int x2), (3, Value.int x3)] [Value.int y0, Value.ref (enc 12 0)] := by
  refine V_callV (pc := 116) C (ct_X8_fails hT hl h) g1120 g1122 g32 g1123 g64 ⟨by decide, by decide, pl_X8_fails⟩ (enc_ne63 (by decide)) (ct_obj hT rfl (by decide)) rfl ⟨by decide, by decide⟩ (rest := []) rfl (le8 rfl) dX8_group_116 (fun v5 S4 h => ?_) (fun k9 S9 hk h => VX_out C htab hk (h.2 (by omega)))
  replace h := h.1 rfl
  refine V_st (st' := [Value.int v5]) rfl ?_
  refine V_if_eq (pc := 119) (tgt := 124) C dX8_group_119 (by decide) h (fun h => ?_) (fun h => ?_)
  · refine V_aload_n (pc := 124) C dX8_group_124 rfl 0 rfl ?_
    refine V_iload_n (pc := 125) C dX8_group_125 rfl 1 rfl ?_
    refine V_iload_n (pc := 126) C dX8_group_126 rfl 2 rfl ?_
    refine V_callV (pc := 127) C (ct_X8_side hT hl h) g1249 g1251 g49 g1252 g64 ⟨by decide, by decide, pl_X8_side⟩ (enc_ne63 (by decide)) (ct_obj hT rfl (by decide)) rfl ⟨by decide, by decide⟩ (rest := []) rfl (le8 rfl) dX8_group_127 (fun v8 S7 h => ?_) (fun k9 S9 hk h => VX_out C htab hk (h.2 (by omega)))
    replace h := h.1 rfl
    refine V_st (st' := [Value.int v8]) rfl ?_
    refine V_istore (pc := 130) C dX8_group_130 (by decide) rfl ?_
    refine V_aload_n (pc := 132) C dX8_group_132 rfl 1 rfl ?_
    refine V_getI (pc := 133) C hT f1_X8_36 g1014 dX8_group_133 ?_
    refine V_nI fun v10 e9 => ?_
    replace h := h v10 e9; clear e9
    refine V_istore (pc := 136) C dX8_group_136 (by decide) rfl ?_
    refine V_iload (pc := 138) C dX8_group_138 1 rfl ?_
    refine V_istore (pc := 140) C dX8_group_140 (by decide) rfl ?_
    refine V_sub [3, 4, 5, 6, 2, 1, 0] rfl ?_
    obtain ⟨n9, h⟩ := h
    exact k_X8_group_142 hT hl C hr hnm htab  n9 h
  · refine V_iconst (pc := 122) C (v := 0) dX8_group_122 rfl ?_
    exact V_iret (pc := 123) C hr rfl h dX8_group_123
def w_X8_group_82  (Q : Nat → Int32 → Sg → Prop) (x1 : Int32) (x2 : Int32) (x3 : Int32) (x4 : Int32) (y0 : Int32) (S : Sg) : Prop := (w_X8_isShow x1 S (fun k13 v12 S11 => (k13 = 0 → ((v12 = 0 → w_X8_group_116  Q x1 x2 x3 1 S11) ∧ (¬ v12 = 0 → ((x4 = 0 → w_X8_group_116  Q x1 x2 x3 2 S11) ∧ (¬ x4 = 0 → ((y0 = 0 → w_X8_group_116  Q x1 x2 x3 3 S11) ∧ (¬ y0 = 0 → w_X8_group_116  Q x1 x2 x3 0 S11))))))) ∧ (¬ k13 = 0 → Q k13 0 S11)))
theorem k_X8_group_82 (hT : xT X = tb1) (hl : l.stackTraces = false) (C : Cn X k0 p l R s m meth c cX8_group RX8 9 3 52) (hr : meth.sig.returnType = (some .int)) (hnm : meth.name = yX8_group.name) (htab : ∀ x ∈ c.exceptionTable.toList, False)  {x1 : Int32} {x2 : Int32} {x3 : Int32} {x4 : Int32} {y0 : Int32} {S : Sg} (h : w_X8_group_82  Qa x1 x2 x3 x4 y0 S) : V X p l e R s m args below meth c 9 (QM X below args s S0 ad0 rvI Qa) S0 ad0 S 82 [(0, Value.ref (enc 12 0)), (1, Value.int x1), (2, Value.int x2), (3, Value.int x3), (4, Value.int x4)] [Value.int y0] := by
  refine V_istore (pc := 82) C dX8_group_82 (by decide) rfl ?_
  refine V_aload_n (pc := 84) C dX8_group_84 rfl 1 rfl ?_
  refine V_aload_n (pc := 85) C dX8_group_85 rfl 1 rfl ?_
  refine V_iload_n (pc := 86) C dX8_group_86 rfl 2 rfl ?_
  refine V_callV (pc := 87) C (ct_X8_isShow hT hl h) g1174 g1176 g38 g1177 g64 ⟨by decide, by decide, pl_X8_isShow⟩ (enc_ne63 (by decide)) (ct_obj hT rfl (by decide)) rfl ⟨by decide, by decide⟩ (rest := [Value.ref (enc 12 0)]) rfl (le8 rfl) dX8_group_87 (fun v12 S11 h => ?_) (fun k9 S9 hk h => VX_out C htab hk (h.2 (by omega)))
  replace h := h.1 rfl
  refine V_st (st' := [Value.int v12, Value.ref (enc 12 0)]) rfl ?_
  refine V_if_ne (pc := 90) (tgt := 97) C dX8_group_90 (by decide) h (fun h => ?_) (fun h => ?_)
  · refine V_iload (pc := 97) C dX8_group_97 5 rfl ?_
    refine V_if_ne (pc := 99) (tgt := 106) C dX8_group_99 (by decide) h (fun h => ?_) (fun h => ?_)
    · refine V_iload (pc := 106) C dX8_group_106 0 rfl ?_
      refine V_if_eq (pc := 108) (tgt := 115) C dX8_group_108 (by decide) h (fun h => ?_) (fun h => ?_)
      · refine V_iconst (pc := 115) C (v := 3) dX8_group_115 rfl ?_
        refine V_sub [1, 2, 3, 4] rfl ?_
        exact k_X8_group_116 hT hl C hr hnm htab  h
      · refine V_iconst (pc := 111) C (v := 0) dX8_group_111 rfl ?_
        refine V_goto (pc := 112) (tgt := 116) C dX8_group_112 (by decide) ?_
        refine V_sub [1, 2, 3, 4] rfl ?_
        exact k_X8_group_116 hT hl C hr hnm htab  h
    · refine V_iconst (pc := 102) C (v := 2) dX8_group_102 rfl ?_
      refine V_goto (pc := 103) (tgt := 116) C dX8_group_103 (by decide) ?_
      refine V_sub [1, 2, 3, 4] rfl ?_
      exact k_X8_group_116 hT hl C hr hnm htab  h
  · refine V_iconst (pc := 93) C (v := 1) dX8_group_93 rfl ?_
    refine V_goto (pc := 94) (tgt := 116) C dX8_group_94 (by decide) ?_
    refine V_sub [1, 2, 3, 4] rfl ?_
    exact k_X8_group_116 hT hl C hr hnm htab  h
def w_X8_group_81  (Q : Nat → Int32 → Sg → Prop) (x1 : Int32) (x2 : Int32) (x3 : Int32) (x4 : Int32) (S : Sg) : Prop := w_X8_group_82  Q x1 x2 x3 x4 0 S
theorem k_X8_group_81 (hT : xT X = tb1) (hl : l.stackTraces = false) (C : Cn X k0 p l R s m meth c cX8_group RX8 9 3 52) (hr : meth.sig.returnType = (some .int)) (hnm : meth.name = yX8_group.name) (htab : ∀ x ∈ c.exceptionTable.toList, False)  {x1 : Int32} {x2 : Int32} {x3 : Int32} {x4 : Int32} {S : Sg} (h : w_X8_group_81  Qa x1 x2 x3 x4 S) : V X p l e R s m args below meth c 9 (QM X below args s S0 ad0 rvI Qa) S0 ad0 S 81 [(0, Value.ref (enc 12 0)), (1, Value.int x1), (2, Value.int x2), (3, Value.int x3), (4, Value.int x4)] [] := by
  refine V_iconst (pc := 81) C (v := 0) dX8_group_81 rfl ?_
  refine V_sub [0, 1, 2, 3, 4] rfl ?_
  exact k_X8_group_82 hT hl C hr hnm htab  h
def w_X8_group_22  (Q : Nat → Int32 → Sg → Prop) (x1 : Int32) (x2 : Int32) (x3 : Int32) (y0 : Int32) (S : Sg) : Prop := (w_X8_isShow x1 S (fun k16 v15 S14 => (k16 = 0 → ((v15 = 0 → w_X8_group_81  Q x1 x2 x3 y0 S14) ∧ (¬ v15 = 0 → ((y0 = 0 → w_X8_group_81  Q x1 x2 x3 y0 S14) ∧ (¬ y0 = 0 → (vp_in x1 30 ∧ (((S14.1 125 (nt x1)) = 0 → (w_X8_side x1 x2 S14 (fun k19 v18 S17 => (k19 = 0 → ((v18 = (-1) → w_X8_group_81  Q x1 x2 x3 y0 S17) ∧ (¬ v18 = (-1) → (w_X8_canSee x1 x3 S17 (fun k22 v21 S20 => (k22 = 0 → ((v21 = 0 → w_X8_group_81  Q x1 x2 x3 y0 S20) ∧ (¬ v21 = 0 → ((400 < ((S20.1 336 0) + x2) → w_X8_group_81  Q x1 x2 x3 y0 S20) ∧ (¬ 400 < ((S20.1 336 0) + x2) → w_X8_group_82  Q x1 x2 x3 y0 1 S20))))) ∧ (¬ k22 = 0 → Q k22 0 S20)))))) ∧ (¬ k19 = 0 → Q k19 0 S17)))) ∧ (¬ (S14.1 125 (nt x1)) = 0 → w_X8_group_81  Q x1 x2 x3 y0 S14)))))))) ∧ (¬ k16 = 0 → Q k16 0 S14)))
theorem k_X8_group_22 (hT : xT X = tb1) (hl : l.stackTraces = false) (C : Cn X k0 p l R s m meth c cX8_group RX8 9 3 52) (hr : meth.sig.returnType = (some .int)) (hnm : meth.name = yX8_group.name) (htab : ∀ x ∈ c.exceptionTable.toList, False)  {x1 : Int32} {x2 : Int32} {x3 : Int32} {y0 : Int32} {S : Sg} (h : w_X8_group_22  Qa x1 x2 x3 y0 S) : V X p l e R s m args below meth c 9 (QM X below args s S0 ad0 rvI Qa) S0 ad0 S 22 [(0, Value.ref (enc 12 0)), (1, Value.int x1), (2, Value.int x2), (3, Value.int x3)] [Value.int y0] := by
  refine V_istore (pc := 22) C dX8_group_22 (by decide) rfl ?_
  refine V_aload_n (pc := 24) C dX8_group_24 rfl 1 rfl ?_
  refine V_iload_n (pc := 25) C dX8_group_25 rfl 2 rfl ?_
  refine V_callV (pc := 26) C (ct_X8_isShow hT hl h) g1174 g1176 g38 g1177 g64 ⟨by decide, by decide, pl_X8_isShow⟩ (enc_ne63 (by decide)) (ct_obj hT rfl (by decide)) rfl ⟨by decide, by decide⟩ (rest := []) rfl (le8 rfl) dX8_group_26 (fun v15 S14 h => ?_) (fun k9 S9 hk h => VX_out C htab hk (h.2 (by omega)))
  replace h := h.1 rfl
  refine V_st (st' := [Value.int v15]) rfl ?_
  refine V_if_eq (pc := 29) (tgt := 81) C dX8_group_29 (by decide) h (fun h => ?_) (fun h => ?_)
  · refine V_sub [1, 2, 3, 4, 0] rfl ?_
    exact k_X8_group_81 hT hl C hr hnm htab  h
  · refine V_iload (pc := 32) C dX8_group_32 0 rfl ?_
    refine V_if_eq (pc := 34) (tgt := 81) C dX8_group_34 (by decide) h (fun h => ?_) (fun h => ?_)
    · refine V_sub [1, 2, 3, 4, 0] rfl ?_
      exact k_X8_group_81 hT hl C hr hnm htab  h
    · refine V_aload_n (pc := 37) C dX8_group_37 rfl 1 rfl ?_
      refine V_getF (pc := 38) C hT f1_X8_25 g1003 dX8_group_38 ?_
      refine V_iload_n (pc := 41) C dX8_group_41 rfl 2 rfl ?_
      refine V_mld (pc := 42) C hT tb1_arr (n := 30) (c9 := 125) rfl rfl rfl h dX8_group_42 (fun h => ?_)
      refine V_if_ne (pc := 43) (tgt := 81) C dX8_group_43 (by decide) h (fun h => ?_) (fun h => ?_)
      · refine V_sub [1, 2, 3, 4, 0] rfl ?_
        exact k_X8_group_81 hT hl C hr hnm htab  h
      · refine V_aload_n (pc := 46) C dX8_group_46 rfl 1 rfl ?_
        refine V_iload_n (pc := 47) C dX8_group_47 rfl 2 rfl ?_
        refine V_iload_n (pc := 48) C dX8_group_48 rfl 3 rfl ?_
        refine V_callV (pc := 49) C (ct_X8_side hT hl h) g1249 g1251 g49 g1252 g64 ⟨by decide, by decide, pl_X8_side⟩ (enc_ne63 (by decide)) (ct_obj hT rfl (by decide)) rfl ⟨by decide, by decide⟩ (rest := []) rfl (le8 rfl) dX8_group_49 (fun v18 S17 h => ?_) (fun k9 S9 hk h => VX_out C htab hk (h.2 (by omega)))
        replace h := h.1 rfl
        refine V_st (st' := [Value.int v18]) rfl ?_
        refine V_iconst (pc := 52) C (v := (-1)) dX8_group_52 rfl ?_
        refine V_icmp_eq (pc := 53) (tgt := 81) C dX8_group_53 (by decide) h (fun h => ?_) (fun h => ?_)
        · refine V_sub [1, 2, 3, 4, 0] rfl ?_
          exact k_X8_group_81 hT hl C hr hnm htab  h
        · refine V_aload_n (pc := 56) C dX8_group_56 rfl 1 rfl ?_
          refine V_iload_n (pc := 57) C dX8_group_57 rfl 2 rfl ?_
          refine V_iload_n (pc := 58) C dX8_group_58 rfl 4 rfl ?_
          refine V_callV (pc := 59) C (ct_X8_canSee hT hl h) g1234 g1236 g48 g1237 g64 ⟨by decide, by decide, pl_X8_canSee⟩ (enc_ne63 (by decide)) (ct_obj hT rfl (by decide)) rfl ⟨by decide, by decide⟩ (rest := []) rfl (le8 rfl) dX8_group_59 (fun v21 S20 h => ?_) (fun k9 S9 hk h => VX_out C htab hk (h.2 (by omega)))
          replace h := h.1 rfl
          refine V_st (st' := [Value.int v21]) rfl ?_
          refine V_if_eq (pc := 62) (tgt := 81) C dX8_group_62 (by decide) h (fun h => ?_) (fun h => ?_)
          · refine V_sub [1, 2, 3, 4, 0] rfl ?_
            exact k_X8_group_81 hT hl C hr hnm htab  h
          · refine V_aload_n (pc := 65) C dX8_group_65 rfl 1 rfl ?_
            refine V_getI (pc := 66) C hT f1_X8_36 g1014 dX8_group_66 ?_
            refine V_iload_n (pc := 69) C dX8_group_69 rfl 3 rfl ?_
            refine V_iadd (pc := 70) C dX8_group_70 ?_
            refine V_sipush (pc := 71) C (v := 400) dX8_group_71 rfl ?_
            refine V_icmp_gt (pc := 74) (tgt := 81) C dX8_group_74 (by decide) h (fun h => ?_) (fun h => ?_)
            · refine V_sub [1, 2, 3, 4, 0] rfl ?_
              exact k_X8_group_81 hT hl C hr hnm htab  h
            · refine V_iconst (pc := 77) C (v := 1) dX8_group_77 rfl ?_
              refine V_goto (pc := 78) (tgt := 82) C dX8_group_78 (by decide) ?_
              refine V_sub [1, 2, 3, 4, 0] rfl ?_
              exact k_X8_group_82 hT hl C hr hnm htab  h
def w_X8_group_21  (Q : Nat → Int32 → Sg → Prop) (x1 : Int32) (x2 : Int32) (x3 : Int32) (S : Sg) : Prop := w_X8_group_22  Q x1 x2 x3 0 S
theorem k_X8_group_21 (hT : xT X = tb1) (hl : l.stackTraces = false) (C : Cn X k0 p l R s m meth c cX8_group RX8 9 3 52) (hr : meth.sig.returnType = (some .int)) (hnm : meth.name = yX8_group.name) (htab : ∀ x ∈ c.exceptionTable.toList, False)  {x1 : Int32} {x2 : Int32} {x3 : Int32} {S : Sg} (h : w_X8_group_21  Qa x1 x2 x3 S) : V X p l e R s m args below meth c 9 (QM X below args s S0 ad0 rvI Qa) S0 ad0 S 21 [(0, Value.ref (enc 12 0)), (1, Value.int x1), (2, Value.int x2), (3, Value.int x3)] [] := by
  refine V_iconst (pc := 21) C (v := 0) dX8_group_21 rfl ?_
  refine V_sub [0, 1, 2, 3] rfl ?_
  exact k_X8_group_22 hT hl C hr hnm htab  h
def w_X8_group (a1 : Int32) (a2 : Int32) (a3 : Int32) (S : Sg) (Q : Nat → Int32 → Sg → Prop) : Prop := (w_X8_isIn a2 2 8 S (fun k25 v24 S23 => (k25 = 0 → ((v24 = 0 → w_X8_group_21  Q a1 a2 a3 S23) ∧ (¬ v24 = 0 → (w_X8_isAge a3 S23 (fun k28 v27 S26 => (k28 = 0 → ((v27 = 0 → w_X8_group_21  Q a1 a2 a3 S26) ∧ (¬ v27 = 0 → w_X8_group_22  Q a1 a2 a3 1 S26))) ∧ (¬ k28 = 0 → Q k28 0 S26)))))) ∧ (¬ k25 = 0 → Q k25 0 S23)))
theorem ct_X8_group (hT : xT X = tb1) (hl : l.stackTraces = false) {a1 : Int32} {a2 : Int32} {a3 : Int32} {S : Sg} (h : w_X8_group a1 a2 a3 S Qa) : CT X k0 l yX8_group cX8_group 9 (some .int) 3 52 [Value.ref (enc 12 0), Value.int a1, Value.int a2, Value.int a3] rvI S Qa :=
  CT_ofV (own := RX8) (by decide +kernel) (le8 rfl) rfl hl fun p e R s m args below meth c ad0 C hr hnm htab => by
    refine V_iload_n (pc := 0) C dX8_group_0 rfl 2 rfl ?_
    refine V_iconst (pc := 1) C (v := 2) dX8_group_1 rfl ?_
    refine V_bipush (pc := 2) C (v := 8) dX8_group_2 rfl ?_
    refine V_callS (pc := 4) C (ct_X8_isIn hT hl h) g1117 g1118 g1119 g64 ⟨by decide, by decide, pl_X8_isIn⟩ ⟨by decide, by decide⟩ (rest := []) rfl (le8 rfl) dX8_group_4 (fun v24 S23 h => ?_) (fun k9 S9 hk h => VX_out C htab hk (h.2 (by omega)))
    replace h := h.1 rfl
    refine V_st (st' := [Value.int v24]) rfl ?_
    refine V_if_eq (pc := 7) (tgt := 21) C dX8_group_7 (by decide) h (fun h => ?_) (fun h => ?_)
    · refine V_sub [0, 1, 2, 3] rfl ?_
      exact k_X8_group_21 hT hl C hr hnm htab  h
    · refine V_iload_n (pc := 10) C dX8_group_10 rfl 3 rfl ?_
      refine V_callS (pc := 11) C (ct_X8_isAge hT hl h) g1238 g1239 g1240 g64 ⟨by decide, by decide, pl_X8_isAge⟩ ⟨by decide, by decide⟩ (rest := []) rfl (le8 rfl) dX8_group_11 (fun v27 S26 h => ?_) (fun k9 S9 hk h => VX_out C htab hk (h.2 (by omega)))
      replace h := h.1 rfl
      refine V_st (st' := [Value.int v27]) rfl ?_
      refine V_if_eq (pc := 14) (tgt := 21) C dX8_group_14 (by decide) h (fun h => ?_) (fun h => ?_)
      · refine V_sub [0, 1, 2, 3] rfl ?_
        exact k_X8_group_21 hT hl C hr hnm htab  h
      · refine V_iconst (pc := 17) C (v := 1) dX8_group_17 rfl ?_
        refine V_goto (pc := 18) (tgt := 22) C dX8_group_18 (by decide) ?_
        refine V_sub [0, 1, 2, 3] rfl ?_
        exact k_X8_group_22 hT hl C hr hnm htab  h
theorem pl_X8_isTicket : (parseMethodDescriptor yX8_isTicket.desc).map (fun d => d.parameters.length) = some 1 := by decide +kernel
def w_X8_isTicket (a1 : Int32) (S : Sg) (Q : Nat → Int32 → Sg → Prop) : Prop := (w_X8_isIn a1 0 ((S.1 336 0) - 1) S (fun k3 v2 S1 => (k3 = 0 → ((v2 = 0 ∨ v2 = 1) ∧ Q 0 v2 S1)) ∧ (¬ k3 = 0 → Q k3 0 S1)))
theorem ct_X8_isTicket (hT : xT X = tb1) (hl : l.stackTraces = false) {a1 : Int32} {S : Sg} (h : w_X8_isTicket a1 S Qa) : CT X k0 l yX8_isTicket cX8_isTicket 2 (some .boolean) 2 22 [Value.ref (enc 12 0), Value.int a1] rvI S Qa :=
  CT_ofV (own := RX8) (by decide +kernel) (le8 rfl) rfl hl fun p e R s m args below meth c ad0 C hr hnm htab => by
    refine V_iload_n (pc := 0) C dX8_isTicket_0 rfl 1 rfl ?_
    refine V_iconst (pc := 1) C (v := 0) dX8_isTicket_1 rfl ?_
    refine V_aload_n (pc := 2) C dX8_isTicket_2 rfl 0 rfl ?_
    refine V_getI (pc := 3) C hT f1_X8_36 g1014 dX8_isTicket_3 ?_
    refine V_iconst (pc := 6) C (v := 1) dX8_isTicket_6 rfl ?_
    refine V_isub (pc := 7) C dX8_isTicket_7 ?_
    refine V_callS (pc := 8) C (ct_X8_isIn hT hl h) g1117 g1118 g1119 g64 ⟨by decide, by decide, pl_X8_isIn⟩ ⟨by decide, by decide⟩ (rest := []) rfl (le8 rfl) dX8_isTicket_8 (fun v2 S1 h => ?_) (fun k9 S9 hk h => VX_out C htab hk (h.2 (by omega)))
    replace h := h.1 rfl
    refine V_st (st' := [Value.int v2]) rfl ?_
    exact V_zret (pc := 11) C hr h.1 rfl h.2 dX8_isTicket_11
theorem pl_X8_giveBack : (parseMethodDescriptor yX8_giveBack.desc).map (fun d => d.parameters.length) = some 1 := by decide +kernel
def w_X8_giveBack_59  (Q : Nat → Int32 → Sg → Prop) (x1 : Int32) (y0 : Int32) (S : Sg) : Prop := (w_X8_fails y0 S (fun k3 v2 S1 => (k3 = 0 → ((v2 = 0 → (vp_in x1 400 ∧ (∀ v4, v4 = S1.1 140 (nt x1) → (vp_in x1 400 ∧ (∀ S5, S5 = su S1 140 (nt x1) 0 → (vp_in x1 400 ∧ ((1 : Int32) = 0 ∨ (1 : Int32) = 1) ∧ (∀ S6, S6 = su S5 141 (nt x1) 1 → (vp_in x1 400 ∧ (vp_in x1 400 ∧ (vp_in ((48 * (S6.1 137 (nt x1))) + (S6.1 138 (nt x1))) 1440 ∧ (∀ S7, S7 = su S6 126 (nt ((48 * (S6.1 137 (nt x1))) + (S6.1 138 (nt x1)))) (-1) → (vp_in x1 400 ∧ (vp_in x1 400 ∧ (w_X8_frees (S7.1 137 (nt x1)) (S7.1 138 (nt x1)) S7 (fun k10 v9 S8 => (k10 = 0 → Q 0 v4 S8) ∧ (¬ k10 = 0 → Q k10 0 S8)))))))))))))))) ∧ (¬ v2 = 0 → Q 0 0 S1))) ∧ (¬ k3 = 0 → Q k3 0 S1)))
theorem k_X8_giveBack_59 (hT : xT X = tb1) (hl : l.stackTraces = false) (C : Cn X k0 p l R s m meth c cX8_giveBack RX8 4 4 71) (hr : meth.sig.returnType = (some .int)) (hnm : meth.name = yX8_giveBack.name) (htab : ∀ x ∈ c.exceptionTable.toList, False)  {x1 : Int32} {y0 : Int32} {S : Sg} (h : w_X8_giveBack_59  Qa x1 y0 S) : V X p l e R s m args below meth c 4 (QM X below args s S0 ad0 rvI Qa) S0 ad0 S 59 [(0, Value.ref (enc 12 0)), (1, Value.int x1)] [Value.int y0, Value.ref (enc 12 0)] := by
  refine V_callV (pc := 59) C (ct_X8_fails hT hl h) g1120 g1122 g32 g1123 g64 ⟨by decide, by decide, pl_X8_fails⟩ (enc_ne63 (by decide)) (ct_obj hT rfl (by decide)) rfl ⟨by decide, by decide⟩ (rest := []) rfl (le8 rfl) dX8_giveBack_59 (fun v2 S1 h => ?_) (fun k9 S9 hk h => VX_out C htab hk (h.2 (by omega)))
  replace h := h.1 rfl
  refine V_st (st' := [Value.int v2]) rfl ?_
  refine V_if_eq (pc := 62) (tgt := 67) C dX8_giveBack_62 (by decide) h (fun h => ?_) (fun h => ?_)
  · refine V_aload_n (pc := 67) C dX8_giveBack_67 rfl 0 rfl ?_
    refine V_getF (pc := 68) C hT f1_X8_40 g1018 dX8_giveBack_68 ?_
    refine V_iload_n (pc := 71) C dX8_giveBack_71 rfl 1 rfl ?_
    refine V_mld (pc := 72) C hT tb1_arr (n := 400) (c9 := 140) rfl rfl rfl h dX8_giveBack_72 (fun h => ?_)
    refine V_nI fun v4 e9 => ?_
    replace h := h v4 e9; clear e9
    refine V_istore_n (pc := 73) C dX8_giveBack_73 rfl (by decide) rfl ?_
    refine V_aload_n (pc := 74) C dX8_giveBack_74 rfl 1 rfl ?_
    refine V_getF (pc := 75) C hT f1_X8_40 g1018 dX8_giveBack_75 ?_
    refine V_iload_n (pc := 78) C dX8_giveBack_78 rfl 2 rfl ?_
    refine V_iconst (pc := 79) C (v := 0) dX8_giveBack_79 rfl ?_
    refine V_mst (pc := 80) C hT tb1_arr (n := 400) (c9 := 140) (by decide) rfl rfl rfl h dX8_giveBack_80 (fun h => V_nx fun S5 e9 => ?_)
    replace h := h S5 e9; clear e9
    refine V_aload_n (pc := 81) C dX8_giveBack_81 rfl 1 rfl ?_
    refine V_getF (pc := 82) C hT f1_X8_41 g1019 dX8_giveBack_82 ?_
    refine V_iload_n (pc := 85) C dX8_giveBack_85 rfl 2 rfl ?_
    refine V_iconst (pc := 86) C (v := 1) dX8_giveBack_86 rfl ?_
    refine V_mstZ (pc := 87) C hT tb1_arr (n := 400) (c9 := 141) (by decide) rfl rfl rfl h dX8_giveBack_87 (fun h => V_nx fun S6 e9 => ?_)
    replace h := h S6 e9; clear e9
    refine V_aload_n (pc := 88) C dX8_giveBack_88 rfl 1 rfl ?_
    refine V_getF (pc := 89) C hT f1_X8_26 g1004 dX8_giveBack_89 ?_
    refine V_bipush (pc := 92) C (v := 48) dX8_giveBack_92 rfl ?_
    refine V_aload_n (pc := 94) C dX8_giveBack_94 rfl 1 rfl ?_
    refine V_getF (pc := 95) C hT f1_X8_37 g1015 dX8_giveBack_95 ?_
    refine V_iload_n (pc := 98) C dX8_giveBack_98 rfl 2 rfl ?_
    refine V_mld (pc := 99) C hT tb1_arr (n := 400) (c9 := 137) rfl rfl rfl h dX8_giveBack_99 (fun h => ?_)
    refine V_imul (pc := 100) C dX8_giveBack_100 ?_
    refine V_aload_n (pc := 101) C dX8_giveBack_101 rfl 1 rfl ?_
    refine V_getF (pc := 102) C hT f1_X8_38 g1016 dX8_giveBack_102 ?_
    refine V_iload_n (pc := 105) C dX8_giveBack_105 rfl 2 rfl ?_
    refine V_mld (pc := 106) C hT tb1_arr (n := 400) (c9 := 138) rfl rfl rfl h dX8_giveBack_106 (fun h => ?_)
    refine V_iadd (pc := 107) C dX8_giveBack_107 ?_
    refine V_iconst (pc := 108) C (v := (-1)) dX8_giveBack_108 rfl ?_
    refine V_mst (pc := 109) C hT tb1_arr (n := 1440) (c9 := 126) (by decide) rfl rfl rfl h dX8_giveBack_109 (fun h => V_nx fun S7 e9 => ?_)
    replace h := h S7 e9; clear e9
    refine V_aload_n (pc := 110) C dX8_giveBack_110 rfl 1 rfl ?_
    refine V_aload_n (pc := 111) C dX8_giveBack_111 rfl 1 rfl ?_
    refine V_getF (pc := 112) C hT f1_X8_37 g1015 dX8_giveBack_112 ?_
    refine V_iload_n (pc := 115) C dX8_giveBack_115 rfl 2 rfl ?_
    refine V_mld (pc := 116) C hT tb1_arr (n := 400) (c9 := 137) rfl rfl rfl h dX8_giveBack_116 (fun h => ?_)
    refine V_aload_n (pc := 117) C dX8_giveBack_117 rfl 1 rfl ?_
    refine V_getF (pc := 118) C hT f1_X8_38 g1016 dX8_giveBack_118 ?_
    refine V_iload_n (pc := 121) C dX8_giveBack_121 rfl 2 rfl ?_
    refine V_mld (pc := 122) C hT tb1_arr (n := 400) (c9 := 138) rfl rfl rfl h dX8_giveBack_122 (fun h => ?_)
    refine V_callV (pc := 123) C (ct_X8_frees hT hl h) g1194 g1196 g41 g1197 g64 ⟨by decide, by decide, pl_X8_frees⟩ (enc_ne63 (by decide)) (ct_obj hT rfl (by decide)) rfl ⟨by decide, by decide⟩ (rest := []) rfl (le8 rfl) dX8_giveBack_123 (fun v9 S8 h => ?_) (fun k9 S9 hk h => VX_out C htab hk (h.2 (by omega)))
    replace h := h.1 rfl
    refine V_st (st' := [Value.int v9]) rfl ?_
    refine V_pop (pc := 126) C dX8_giveBack_126 rfl ?_
    refine V_iload_n (pc := 127) C dX8_giveBack_127 rfl 0 rfl ?_
    exact V_iret (pc := 128) C hr rfl h dX8_giveBack_128
  · refine V_iconst (pc := 65) C (v := 0) dX8_giveBack_65 rfl ?_
    exact V_iret (pc := 66) C hr rfl h dX8_giveBack_66
def w_X8_giveBack_36  (Q : Nat → Int32 → Sg → Prop) (x1 : Int32) (y0 : Int32) (S : Sg) : Prop := (w_X8_isTicket x1 S (fun k13 v12 S11 => (k13 = 0 → ((v12 = 0 → w_X8_giveBack_59  Q x1 1 S11) ∧ (¬ v12 = 0 → ((y0 = 0 → w_X8_giveBack_59  Q x1 2 S11) ∧ (¬ y0 = 0 → w_X8_giveBack_59  Q x1 0 S11))))) ∧ (¬ k13 = 0 → Q k13 0 S11)))
theorem k_X8_giveBack_36 (hT : xT X = tb1) (hl : l.stackTraces = false) (C : Cn X k0 p l R s m meth c cX8_giveBack RX8 4 4 71) (hr : meth.sig.returnType = (some .int)) (hnm : meth.name = yX8_giveBack.name) (htab : ∀ x ∈ c.exceptionTable.toList, False)  {x1 : Int32} {y0 : Int32} {S : Sg} (h : w_X8_giveBack_36  Qa x1 y0 S) : V X p l e R s m args below meth c 4 (QM X below args s S0 ad0 rvI Qa) S0 ad0 S 36 [(0, Value.ref (enc 12 0)), (1, Value.int x1)] [Value.int y0] := by
  refine V_istore_n (pc := 36) C dX8_giveBack_36 rfl (by decide) rfl ?_
  refine V_aload_n (pc := 37) C dX8_giveBack_37 rfl 1 rfl ?_
  refine V_aload_n (pc := 38) C dX8_giveBack_38 rfl 1 rfl ?_
  refine V_iload_n (pc := 39) C dX8_giveBack_39 rfl 2 rfl ?_
  refine V_callV (pc := 40) C (ct_X8_isTicket hT hl h) g1257 g1259 g50 g1260 g64 ⟨by decide, by decide, pl_X8_isTicket⟩ (enc_ne63 (by decide)) (ct_obj hT rfl (by decide)) rfl ⟨by decide, by decide⟩ (rest := [Value.ref (enc 12 0)]) rfl (le8 rfl) dX8_giveBack_40 (fun v12 S11 h => ?_) (fun k9 S9 hk h => VX_out C htab hk (h.2 (by omega)))
  replace h := h.1 rfl
  refine V_st (st' := [Value.int v12, Value.ref (enc 12 0)]) rfl ?_
  refine V_if_ne (pc := 43) (tgt := 50) C dX8_giveBack_43 (by decide) h (fun h => ?_) (fun h => ?_)
  · refine V_iload_n (pc := 50) C dX8_giveBack_50 rfl 0 rfl ?_
    refine V_if_eq (pc := 51) (tgt := 58) C dX8_giveBack_51 (by decide) h (fun h => ?_) (fun h => ?_)
    · refine V_iconst (pc := 58) C (v := 2) dX8_giveBack_58 rfl ?_
      refine V_sub [1, 2] rfl ?_
      exact k_X8_giveBack_59 hT hl C hr hnm htab  h
    · refine V_iconst (pc := 54) C (v := 0) dX8_giveBack_54 rfl ?_
      refine V_goto (pc := 55) (tgt := 59) C dX8_giveBack_55 (by decide) ?_
      refine V_sub [1, 2] rfl ?_
      exact k_X8_giveBack_59 hT hl C hr hnm htab  h
  · refine V_iconst (pc := 46) C (v := 1) dX8_giveBack_46 rfl ?_
    refine V_goto (pc := 47) (tgt := 59) C dX8_giveBack_47 (by decide) ?_
    refine V_sub [1, 2] rfl ?_
    exact k_X8_giveBack_59 hT hl C hr hnm htab  h
def w_X8_giveBack_35  (Q : Nat → Int32 → Sg → Prop) (x1 : Int32) (S : Sg) : Prop := w_X8_giveBack_36  Q x1 0 S
theorem k_X8_giveBack_35 (hT : xT X = tb1) (hl : l.stackTraces = false) (C : Cn X k0 p l R s m meth c cX8_giveBack RX8 4 4 71) (hr : meth.sig.returnType = (some .int)) (hnm : meth.name = yX8_giveBack.name) (htab : ∀ x ∈ c.exceptionTable.toList, False)  {x1 : Int32} {S : Sg} (h : w_X8_giveBack_35  Qa x1 S) : V X p l e R s m args below meth c 4 (QM X below args s S0 ad0 rvI Qa) S0 ad0 S 35 [(0, Value.ref (enc 12 0)), (1, Value.int x1)] [] := by
  refine V_iconst (pc := 35) C (v := 0) dX8_giveBack_35 rfl ?_
  refine V_sub [0, 1] rfl ?_
  exact k_X8_giveBack_36 hT hl C hr hnm htab  h
def w_X8_giveBack (a1 : Int32) (S : Sg) (Q : Nat → Int32 → Sg → Prop) : Prop := (w_X8_isTicket a1 S (fun k16 v15 S14 => (k16 = 0 → ((v15 = 0 → w_X8_giveBack_35  Q a1 S14) ∧ (¬ v15 = 0 → (vp_in a1 400 ∧ (vp_in (S14.1 137 (nt a1)) 30 ∧ (((S14.1 125 (nt (S14.1 137 (nt a1)))) = 0 → (vp_in a1 400 ∧ (((S14.1 141 (nt a1)) = 0 → w_X8_giveBack_36  Q a1 1 S14) ∧ (¬ (S14.1 141 (nt a1)) = 0 → w_X8_giveBack_35  Q a1 S14)))) ∧ (¬ (S14.1 125 (nt (S14.1 137 (nt a1)))) = 0 → w_X8_giveBack_35  Q a1 S14))))))) ∧ (¬ k16 = 0 → Q k16 0 S14)))
theorem ct_X8_giveBack (hT : xT X = tb1) (hl : l.stackTraces = false) {a1 : Int32} {S : Sg} (h : w_X8_giveBack a1 S Qa) : CT X k0 l yX8_giveBack cX8_giveBack 4 (some .int) 4 71 [Value.ref (enc 12 0), Value.int a1] rvI S Qa :=
  CT_ofV (own := RX8) (by decide +kernel) (le8 rfl) rfl hl fun p e R s m args below meth c ad0 C hr hnm htab => by
    refine V_aload_n (pc := 0) C dX8_giveBack_0 rfl 0 rfl ?_
    refine V_iload_n (pc := 1) C dX8_giveBack_1 rfl 1 rfl ?_
    refine V_callV (pc := 2) C (ct_X8_isTicket hT hl h) g1257 g1259 g50 g1260 g64 ⟨by decide, by decide, pl_X8_isTicket⟩ (enc_ne63 (by decide)) (ct_obj hT rfl (by decide)) rfl ⟨by decide, by decide⟩ (rest := []) rfl (le8 rfl) dX8_giveBack_2 (fun v15 S14 h => ?_) (fun k9 S9 hk h => VX_out C htab hk (h.2 (by omega)))
    replace h := h.1 rfl
    refine V_st (st' := [Value.int v15]) rfl ?_
    refine V_if_eq (pc := 5) (tgt := 35) C dX8_giveBack_5 (by decide) h (fun h => ?_) (fun h => ?_)
    · refine V_sub [0, 1] rfl ?_
      exact k_X8_giveBack_35 hT hl C hr hnm htab  h
    · refine V_aload_n (pc := 8) C dX8_giveBack_8 rfl 0 rfl ?_
      refine V_getF (pc := 9) C hT f1_X8_25 g1003 dX8_giveBack_9 ?_
      refine V_aload_n (pc := 12) C dX8_giveBack_12 rfl 0 rfl ?_
      refine V_getF (pc := 13) C hT f1_X8_37 g1015 dX8_giveBack_13 ?_
      refine V_iload_n (pc := 16) C dX8_giveBack_16 rfl 1 rfl ?_
      refine V_mld (pc := 17) C hT tb1_arr (n := 400) (c9 := 137) rfl rfl rfl h dX8_giveBack_17 (fun h => ?_)
      refine V_mld (pc := 18) C hT tb1_arr (n := 30) (c9 := 125) rfl rfl rfl h dX8_giveBack_18 (fun h => ?_)
      refine V_if_ne (pc := 19) (tgt := 35) C dX8_giveBack_19 (by decide) h (fun h => ?_) (fun h => ?_)
      · refine V_sub [0, 1] rfl ?_
        exact k_X8_giveBack_35 hT hl C hr hnm htab  h
      · refine V_aload_n (pc := 22) C dX8_giveBack_22 rfl 0 rfl ?_
        refine V_getF (pc := 23) C hT f1_X8_41 g1019 dX8_giveBack_23 ?_
        refine V_iload_n (pc := 26) C dX8_giveBack_26 rfl 1 rfl ?_
        refine V_mldZ (pc := 27) C hT tb1_arr (n := 400) (c9 := 141) rfl rfl rfl h dX8_giveBack_27 (fun h => ?_)
        refine V_if_ne (pc := 28) (tgt := 35) C dX8_giveBack_28 (by decide) h (fun h => ?_) (fun h => ?_)
        · refine V_sub [0, 1] rfl ?_
          exact k_X8_giveBack_35 hT hl C hr hnm htab  h
        · refine V_iconst (pc := 31) C (v := 1) dX8_giveBack_31 rfl ?_
          refine V_goto (pc := 32) (tgt := 36) C dX8_giveBack_32 (by decide) ?_
          refine V_sub [0, 1] rfl ?_
          exact k_X8_giveBack_36 hT hl C hr hnm htab  h
theorem pl_X8_isFull : (parseMethodDescriptor yX8_isFull.desc).map (fun d => d.parameters.length) = some 1 := by decide +kernel
def w_X8_isFull_49 (k4 : Int32 → Int32 → Int32 → Sg → Prop) (Q : Nat → Int32 → Sg → Prop) (x1 : Int32) (x3 : Int32) (y0 : Int32) (S : Sg) : Prop := k4 x1 y0 (x3 + 1) S
theorem k_X8_isFull_49 (hT : xT X = tb1) (hl : l.stackTraces = false) (C : Cn X k0 p l R s m meth c cX8_isFull RX8 4 2 22) (hr : meth.sig.returnType = (some .boolean)) (hnm : meth.name = yX8_isFull.name) (htab : ∀ x ∈ c.exceptionTable.toList, False) {k4 : Int32 → Int32 → Int32 → Sg → Prop} (hk4 : ∀ {x1 : Int32} {x2 : Int32} {x3 : Int32} {S : Sg}, k4 x1 x2 x3 S → V X p l e R s m args below meth c 4 (QM X below args s S0 ad0 rvI Qa) S0 ad0 S 4 [(0, Value.ref (enc 12 0)), (1, Value.int x1), (2, Value.int x2), (3, Value.int x3)] []) {x1 : Int32} {x3 : Int32} {y0 : Int32} {S : Sg} (h : w_X8_isFull_49 k4 Qa x1 x3 y0 S) : V X p l e R s m args below meth c 4 (QM X below args s S0 ad0 rvI Qa) S0 ad0 S 49 [(0, Value.ref (enc 12 0)), (1, Value.int x1), (3, Value.int x3)] [Value.int y0] := by
  refine V_istore_n (pc := 49) C dX8_isFull_49 rfl (by decide) rfl ?_
  refine V_iinc (pc := 50) C (a := 3) (v := x3 + 1) dX8_isFull_50 rfl rfl (by decide) rfl ?_
  refine V_goto (pc := 53) (tgt := 4) C dX8_isFull_53 (by decide) ?_
  refine V_sub [2, 3, 1, 0] rfl ?_
  exact hk4 h
def w_X8_isFull_48 (k4 : Int32 → Int32 → Int32 → Sg → Prop) (Q : Nat → Int32 → Sg → Prop) (x1 : Int32) (x3 : Int32) (S : Sg) : Prop := w_X8_isFull_49 k4 Q x1 x3 0 S
theorem k_X8_isFull_48 (hT : xT X = tb1) (hl : l.stackTraces = false) (C : Cn X k0 p l R s m meth c cX8_isFull RX8 4 2 22) (hr : meth.sig.returnType = (some .boolean)) (hnm : meth.name = yX8_isFull.name) (htab : ∀ x ∈ c.exceptionTable.toList, False) {k4 : Int32 → Int32 → Int32 → Sg → Prop} (hk4 : ∀ {x1 : Int32} {x2 : Int32} {x3 : Int32} {S : Sg}, k4 x1 x2 x3 S → V X p l e R s m args below meth c 4 (QM X below args s S0 ad0 rvI Qa) S0 ad0 S 4 [(0, Value.ref (enc 12 0)), (1, Value.int x1), (2, Value.int x2), (3, Value.int x3)] []) {x1 : Int32} {x3 : Int32} {S : Sg} (h : w_X8_isFull_48 k4 Qa x1 x3 S) : V X p l e R s m args below meth c 4 (QM X below args s S0 ad0 rvI Qa) S0 ad0 S 48 [(0, Value.ref (enc 12 0)), (1, Value.int x1), (3, Value.int x3)] [] := by
  refine V_iconst (pc := 48) C (v := 0) dX8_isFull_48 rfl ?_
  refine V_sub [0, 1, 2] rfl ?_
  exact k_X8_isFull_49 hT hl C hr hnm htab (fun h => hk4 h) h
def w_X8_isFull_4  (Q : Nat → Int32 → Sg → Prop) : Nat → Int32 → Int32 → Int32 → Sg → Prop
  | 0, _, _, _, _ => False
  | n + 1, x1, x2, x3, S => (vp_in x1 30 ∧ (vp_in (S.1 123 (nt x1)) 4 ∧ (vp_in x1 30 ∧ (vp_in (S.1 123 (nt x1)) 4 ∧ ((((S.1 103 (nt (S.1 123 (nt x1)))) * (S.1 104 (nt (S.1 123 (nt x1))))) ≤ x3 → ((x2 = 0 ∨ x2 = 1) ∧ Q 0 x2 S)) ∧ (¬ ((S.1 103 (nt (S.1 123 (nt x1)))) * (S.1 104 (nt (S.1 123 (nt x1))))) ≤ x3 → ((x2 = 0 → w_X8_isFull_48 (fun x1 x2 x3 S => w_X8_isFull_4  Q n x1 x2 x3 S) Q x1 x3 S) ∧ (¬ x2 = 0 → (w_X8_isFree x1 x3 S (fun k3 v2 S1 => (k3 = 0 → ((v2 = 0 → w_X8_isFull_49 (fun x1 x2 x3 S => w_X8_isFull_4  Q n x1 x2 x3 S) Q x1 x3 1 S1) ∧ (¬ v2 = 0 → w_X8_isFull_48 (fun x1 x2 x3 S => w_X8_isFull_4  Q n x1 x2 x3 S) Q x1 x3 S1))) ∧ (¬ k3 = 0 → Q k3 0 S1)))))))))))
theorem k_X8_isFull_4 (hT : xT X = tb1) (hl : l.stackTraces = false) (C : Cn X k0 p l R s m meth c cX8_isFull RX8 4 2 22) (hr : meth.sig.returnType = (some .boolean)) (hnm : meth.name = yX8_isFull.name) (htab : ∀ x ∈ c.exceptionTable.toList, False)  : ∀ n {x1 : Int32} {x2 : Int32} {x3 : Int32} {S : Sg}, w_X8_isFull_4  Qa n x1 x2 x3 S → V X p l e R s m args below meth c 4 (QM X below args s S0 ad0 rvI Qa) S0 ad0 S 4 [(0, Value.ref (enc 12 0)), (1, Value.int x1), (2, Value.int x2), (3, Value.int x3)] [] := by
  intro n
  induction n with
  | zero => intro x1 x2 x3 S h; exact h.elim
  | succ n ih =>
    intro x1 x2 x3 S h
    refine V_iload_n (pc := 4) C dX8_isFull_4 rfl 3 rfl ?_
    refine V_aload_n (pc := 5) C dX8_isFull_5 rfl 0 rfl ?_
    refine V_getF (pc := 6) C hT f1_X8_3 g981 dX8_isFull_6 ?_
    refine V_aload_n (pc := 9) C dX8_isFull_9 rfl 0 rfl ?_
    refine V_getF (pc := 10) C hT f1_X8_23 g1001 dX8_isFull_10 ?_
    refine V_iload_n (pc := 13) C dX8_isFull_13 rfl 1 rfl ?_
    refine V_mld (pc := 14) C hT tb1_arr (n := 30) (c9 := 123) rfl rfl rfl h dX8_isFull_14 (fun h => ?_)
    refine V_mld (pc := 15) C hT tb1_arr (n := 4) (c9 := 103) rfl rfl rfl h dX8_isFull_15 (fun h => ?_)
    refine V_aload_n (pc := 16) C dX8_isFull_16 rfl 0 rfl ?_
    refine V_getF (pc := 17) C hT f1_X8_4 g982 dX8_isFull_17 ?_
    refine V_aload_n (pc := 20) C dX8_isFull_20 rfl 0 rfl ?_
    refine V_getF (pc := 21) C hT f1_X8_23 g1001 dX8_isFull_21 ?_
    refine V_iload_n (pc := 24) C dX8_isFull_24 rfl 1 rfl ?_
    refine V_mld (pc := 25) C hT tb1_arr (n := 30) (c9 := 123) rfl rfl rfl h dX8_isFull_25 (fun h => ?_)
    refine V_mld (pc := 26) C hT tb1_arr (n := 4) (c9 := 104) rfl rfl rfl h dX8_isFull_26 (fun h => ?_)
    refine V_imul (pc := 27) C dX8_isFull_27 ?_
    refine V_icmp_ge (pc := 28) (tgt := 56) C dX8_isFull_28 (by decide) h (fun h => ?_) (fun h => ?_)
    · refine V_iload_n (pc := 56) C dX8_isFull_56 rfl 2 rfl ?_
      exact V_zret (pc := 57) C hr h.1 rfl h.2 dX8_isFull_57
    · refine V_iload_n (pc := 31) C dX8_isFull_31 rfl 2 rfl ?_
      refine V_if_eq (pc := 32) (tgt := 48) C dX8_isFull_32 (by decide) h (fun h => ?_) (fun h => ?_)
      · refine V_sub [0, 1, 3] rfl ?_
        exact k_X8_isFull_48 hT hl C hr hnm htab (fun h => ih h) h
      · refine V_aload_n (pc := 35) C dX8_isFull_35 rfl 0 rfl ?_
        refine V_iload_n (pc := 36) C dX8_isFull_36 rfl 1 rfl ?_
        refine V_iload_n (pc := 37) C dX8_isFull_37 rfl 3 rfl ?_
        refine V_callV (pc := 38) C (ct_X8_isFree hT hl h) g1218 g1220 g46 g1221 g64 ⟨by decide, by decide, pl_X8_isFree⟩ (enc_ne63 (by decide)) (ct_obj hT rfl (by decide)) rfl ⟨by decide, by decide⟩ (rest := []) rfl (le8 rfl) dX8_isFull_38 (fun v2 S1 h => ?_) (fun k9 S9 hk h => VX_out C htab hk (h.2 (by omega)))
        replace h := h.1 rfl
        refine V_st (st' := [Value.int v2]) rfl ?_
        refine V_if_ne (pc := 41) (tgt := 48) C dX8_isFull_41 (by decide) h (fun h => ?_) (fun h => ?_)
        · refine V_sub [0, 1, 3] rfl ?_
          exact k_X8_isFull_48 hT hl C hr hnm htab (fun h => ih h) h
        · refine V_iconst (pc := 44) C (v := 1) dX8_isFull_44 rfl ?_
          refine V_goto (pc := 45) (tgt := 49) C dX8_isFull_45 (by decide) ?_
          refine V_sub [0, 1, 3] rfl ?_
          exact k_X8_isFull_49 hT hl C hr hnm htab (fun h => ih h) h
def w_X8_isFull (a1 : Int32) (S : Sg) (Q : Nat → Int32 → Sg → Prop) : Prop := ∃ n9, w_X8_isFull_4  Q n9 a1 1 0 S
theorem ct_X8_isFull (hT : xT X = tb1) (hl : l.stackTraces = false) {a1 : Int32} {S : Sg} (h : w_X8_isFull a1 S Qa) : CT X k0 l yX8_isFull cX8_isFull 4 (some .boolean) 2 22 [Value.ref (enc 12 0), Value.int a1] rvI S Qa :=
  CT_ofV (own := RX8) (by decide +kernel) (le8 rfl) rfl hl fun p e R s m args below meth c ad0 C hr hnm htab => by
    refine V_iconst (pc := 0) C (v := 1) dX8_isFull_0 rfl ?_
    refine V_istore_n (pc := 1) C dX8_isFull_1 rfl (by decide) rfl ?_
    refine V_iconst (pc := 2) C (v := 0) dX8_isFull_2 rfl ?_
    refine V_istore_n (pc := 3) C dX8_isFull_3 rfl (by decide) rfl ?_
    refine V_sub [2, 3, 1, 0] rfl ?_
    obtain ⟨n9, h⟩ := h
    exact k_X8_isFull_4 hT hl C hr hnm htab  n9 h
theorem pl_X8_join : (parseMethodDescriptor yX8_join.desc).map (fun d => d.parameters.length) = some 3 := by decide +kernel
def w_X8_join_171  (Q : Nat → Int32 → Sg → Prop) (x1 : Int32) (x2 : Int32) (x3 : Int32) (x5 : Int32) (x6 : Int32) (S : Sg) : Prop := (vp_in (x5 + x6) 1200 ∧ (∀ S1, S1 = su S 129 (nt (x5 + x6)) x2 → (vp_in (x5 + x6) 1200 ∧ (x3 = 0 ∨ x3 = 1) ∧ (∀ S2, S2 = su S1 130 (nt (x5 + x6)) x3 → (vp_in x1 30 ∧ (vp_in x1 30 ∧ (∀ S3, S3 = su S2 128 (nt x1) ((S2.1 128 (nt x1)) + 1) → Q 0 x6 S3)))))))
theorem k_X8_join_171 (hT : xT X = tb1) (hl : l.stackTraces = false) (C : Cn X k0 p l R s m meth c cX8_join RX8 7 3 45) (hr : meth.sig.returnType = (some .int)) (hnm : meth.name = yX8_join.name) (htab : ∀ x ∈ c.exceptionTable.toList, False)  {x1 : Int32} {x2 : Int32} {x3 : Int32} {x5 : Int32} {x6 : Int32} {S : Sg} (h : w_X8_join_171  Qa x1 x2 x3 x5 x6 S) : V X p l e R s m args below meth c 7 (QM X below args s S0 ad0 rvI Qa) S0 ad0 S 171 [(0, Value.ref (enc 12 0)), (1, Value.int x1), (2, Value.int x2), (3, Value.int x3), (5, Value.int x5), (6, Value.int x6)] [] := by
  refine V_aload_n (pc := 171) C dX8_join_171 rfl 0 rfl ?_
  refine V_getF (pc := 172) C hT f1_X8_29 g1007 dX8_join_172 ?_
  refine V_iload (pc := 175) C dX8_join_175 4 rfl ?_
  refine V_iload (pc := 177) C dX8_join_177 5 rfl ?_
  refine V_iadd (pc := 179) C dX8_join_179 ?_
  refine V_iload_n (pc := 180) C dX8_join_180 rfl 2 rfl ?_
  refine V_mst (pc := 181) C hT tb1_arr (n := 1200) (c9 := 129) (by decide) rfl rfl rfl h dX8_join_181 (fun h => V_nx fun S1 e9 => ?_)
  replace h := h S1 e9; clear e9
  refine V_aload_n (pc := 182) C dX8_join_182 rfl 0 rfl ?_
  refine V_getF (pc := 183) C hT f1_X8_30 g1008 dX8_join_183 ?_
  refine V_iload (pc := 186) C dX8_join_186 4 rfl ?_
  refine V_iload (pc := 188) C dX8_join_188 5 rfl ?_
  refine V_iadd (pc := 190) C dX8_join_190 ?_
  refine V_iload_n (pc := 191) C dX8_join_191 rfl 3 rfl ?_
  refine V_mstZ (pc := 192) C hT tb1_arr (n := 1200) (c9 := 130) (by decide) rfl rfl rfl h dX8_join_192 (fun h => V_nx fun S2 e9 => ?_)
  replace h := h S2 e9; clear e9
  refine V_aload_n (pc := 193) C dX8_join_193 rfl 0 rfl ?_
  refine V_getF (pc := 194) C hT f1_X8_28 g1006 dX8_join_194 ?_
  refine V_iload_n (pc := 197) C dX8_join_197 rfl 1 rfl ?_
  refine V_dup2 (pc := 198) C dX8_join_198 rfl rfl ?_
  refine V_mld (pc := 199) C hT tb1_arr (n := 30) (c9 := 128) rfl rfl rfl h dX8_join_199 (fun h => ?_)
  refine V_iconst (pc := 200) C (v := 1) dX8_join_200 rfl ?_
  refine V_iadd (pc := 201) C dX8_join_201 ?_
  refine V_mst (pc := 202) C hT tb1_arr (n := 30) (c9 := 128) (by decide) rfl rfl rfl h dX8_join_202 (fun h => V_nx fun S3 e9 => ?_)
  replace h := h S3 e9; clear e9
  refine V_iload (pc := 203) C dX8_join_203 5 rfl ?_
  exact V_iret (pc := 205) C hr rfl h dX8_join_205
def w_X8_join_108  (Q : Nat → Int32 → Sg → Prop) : Nat → Int32 → Int32 → Int32 → Int32 → Int32 → Sg → Prop
  | 0, _, _, _, _, _, _ => False
  | n + 1, x1, x2, x3, x5, x6, S => ((x3 = 0 → w_X8_join_171  Q x1 x2 x3 x5 x6 S) ∧ (¬ x3 = 0 → ((x6 ≤ 0 → w_X8_join_171  Q x1 x2 x3 x5 x6 S) ∧ (¬ x6 ≤ 0 → (vp_in ((x5 + x6) - 1) 1200 ∧ (((S.1 130 (nt ((x5 + x6) - 1))) = 0 → (vp_in ((x5 + x6) - 1) 1200 ∧ (vp_in (x5 + x6) 1200 ∧ (∀ S4, S4 = su S 129 (nt (x5 + x6)) (S.1 129 (nt ((x5 + x6) - 1))) → (vp_in (x5 + x6) 1200 ∧ ((0 : Int32) = 0 ∨ (0 : Int32) = 1) ∧ (∀ S5, S5 = su S4 130 (nt (x5 + x6)) 0 → w_X8_join_108  Q n x1 x2 x3 x5 (x6 + (-1)) S5)))))) ∧ (¬ (S.1 130 (nt ((x5 + x6) - 1))) = 0 → w_X8_join_171  Q x1 x2 x3 x5 x6 S)))))))
theorem k_X8_join_108 (hT : xT X = tb1) (hl : l.stackTraces = false) (C : Cn X k0 p l R s m meth c cX8_join RX8 7 3 45) (hr : meth.sig.returnType = (some .int)) (hnm : meth.name = yX8_join.name) (htab : ∀ x ∈ c.exceptionTable.toList, False)  : ∀ n {x1 : Int32} {x2 : Int32} {x3 : Int32} {x5 : Int32} {x6 : Int32} {S : Sg}, w_X8_join_108  Qa n x1 x2 x3 x5 x6 S → V X p l e R s m args below meth c 7 (QM X below args s S0 ad0 rvI Qa) S0 ad0 S 108 [(0, Value.ref (enc 12 0)), (1, Value.int x1), (2, Value.int x2), (3, Value.int x3), (5, Value.int x5), (6, Value.int x6)] [] := by
  intro n
  induction n with
  | zero => intro x1 x2 x3 x5 x6 S h; exact h.elim
  | succ n ih =>
    intro x1 x2 x3 x5 x6 S h
    refine V_iload_n (pc := 108) C dX8_join_108 rfl 3 rfl ?_
    refine V_if_eq (pc := 109) (tgt := 171) C dX8_join_109 (by decide) h (fun h => ?_) (fun h => ?_)
    · refine V_sub [0, 1, 2, 3, 4, 5] rfl ?_
      exact k_X8_join_171 hT hl C hr hnm htab  h
    · refine V_iload (pc := 112) C dX8_join_112 5 rfl ?_
      refine V_if_le (pc := 114) (tgt := 171) C dX8_join_114 (by decide) h (fun h => ?_) (fun h => ?_)
      · refine V_sub [0, 1, 2, 3, 4, 5] rfl ?_
        exact k_X8_join_171 hT hl C hr hnm htab  h
      · refine V_aload_n (pc := 117) C dX8_join_117 rfl 0 rfl ?_
        refine V_getF (pc := 118) C hT f1_X8_30 g1008 dX8_join_118 ?_
        refine V_iload (pc := 121) C dX8_join_121 4 rfl ?_
        refine V_iload (pc := 123) C dX8_join_123 5 rfl ?_
        refine V_iadd (pc := 125) C dX8_join_125 ?_
        refine V_iconst (pc := 126) C (v := 1) dX8_join_126 rfl ?_
        refine V_isub (pc := 127) C dX8_join_127 ?_
        refine V_mldZ (pc := 128) C hT tb1_arr (n := 1200) (c9 := 130) rfl rfl rfl h dX8_join_128 (fun h => ?_)
        refine V_if_ne (pc := 129) (tgt := 171) C dX8_join_129 (by decide) h (fun h => ?_) (fun h => ?_)
        · refine V_sub [0, 1, 2, 3, 4, 5] rfl ?_
          exact k_X8_join_171 hT hl C hr hnm htab  h
        · refine V_aload_n (pc := 132) C dX8_join_132 rfl 0 rfl ?_
          refine V_getF (pc := 133) C hT f1_X8_29 g1007 dX8_join_133 ?_
          refine V_iload (pc := 136) C dX8_join_136 4 rfl ?_
          refine V_iload (pc := 138) C dX8_join_138 5 rfl ?_
          refine V_iadd (pc := 140) C dX8_join_140 ?_
          refine V_aload_n (pc := 141) C dX8_join_141 rfl 0 rfl ?_
          refine V_getF (pc := 142) C hT f1_X8_29 g1007 dX8_join_142 ?_
          refine V_iload (pc := 145) C dX8_join_145 4 rfl ?_
          refine V_iload (pc := 147) C dX8_join_147 5 rfl ?_
          refine V_iadd (pc := 149) C dX8_join_149 ?_
          refine V_iconst (pc := 150) C (v := 1) dX8_join_150 rfl ?_
          refine V_isub (pc := 151) C dX8_join_151 ?_
          refine V_mld (pc := 152) C hT tb1_arr (n := 1200) (c9 := 129) rfl rfl rfl h dX8_join_152 (fun h => ?_)
          refine V_mst (pc := 153) C hT tb1_arr (n := 1200) (c9 := 129) (by decide) rfl rfl rfl h dX8_join_153 (fun h => V_nx fun S4 e9 => ?_)
          replace h := h S4 e9; clear e9
          refine V_aload_n (pc := 154) C dX8_join_154 rfl 0 rfl ?_
          refine V_getF (pc := 155) C hT f1_X8_30 g1008 dX8_join_155 ?_
          refine V_iload (pc := 158) C dX8_join_158 4 rfl ?_
          refine V_iload (pc := 160) C dX8_join_160 5 rfl ?_
          refine V_iadd (pc := 162) C dX8_join_162 ?_
          refine V_iconst (pc := 163) C (v := 0) dX8_join_163 rfl ?_
          refine V_mstZ (pc := 164) C hT tb1_arr (n := 1200) (c9 := 130) (by decide) rfl rfl rfl h dX8_join_164 (fun h => V_nx fun S5 e9 => ?_)
          replace h := h S5 e9; clear e9
          refine V_iinc (pc := 165) C (a := 5) (v := x6 + (-1)) dX8_join_165 rfl rfl (by decide) rfl ?_
          refine V_goto (pc := 168) (tgt := 108) C dX8_join_168 (by decide) ?_
          refine V_sub [1, 2, 3, 4, 5, 0] rfl ?_
          exact ih h
def w_X8_join_86  (Q : Nat → Int32 → Sg → Prop) (x1 : Int32) (x2 : Int32) (x3 : Int32) (y0 : Int32) (S : Sg) : Prop := (w_X8_fails y0 S (fun k8 v7 S6 => (k8 = 0 → ((v7 = 0 → (∀ v9, v9 = 40 * x1 → (vp_in x1 30 ∧ (∀ v10, v10 = S6.1 128 (nt x1) → ∃ n9, w_X8_join_108  Q n9 x1 x2 x3 v9 v10 S6)))) ∧ (¬ v7 = 0 → Q 0 0 S6))) ∧ (¬ k8 = 0 → Q k8 0 S6)))
theorem k_X8_join_86 (hT : xT X = tb1) (hl : l.stackTraces = false) (C : Cn X k0 p l R s m meth c cX8_join RX8 7 3 45) (hr : meth.sig.returnType = (some .int)) (hnm : meth.name = yX8_join.name) (htab : ∀ x ∈ c.exceptionTable.toList, False)  {x1 : Int32} {x2 : Int32} {x3 : Int32} {y0 : Int32} {S : Sg} (h : w_X8_join_86  Qa x1 x2 x3 y0 S) : V X p l e R s m args below meth c 7 (QM X below args s S0 ad0 rvI Qa) S0 ad0 S 86 [(0, Value.ref (enc 12 0)), (1, Value.int x1), (2, Value.int x2), (3, Value.int x3)] [Value.int y0, Value.ref (enc 12 0)] := by
  refine V_callV (pc := 86) C (ct_X8_fails hT hl h) g1120 g1122 g32 g1123 g64 ⟨by decide, by decide, pl_X8_fails⟩ (enc_ne63 (by decide)) (ct_obj hT rfl (by decide)) rfl ⟨by decide, by decide⟩ (rest := []) rfl (le8 rfl) dX8_join_86 (fun v7 S6 h => ?_) (fun k9 S9 hk h => VX_out C htab hk (h.2 (by omega)))
  replace h := h.1 rfl
  refine V_st (st' := [Value.int v7]) rfl ?_
  refine V_if_eq (pc := 89) (tgt := 94) C dX8_join_89 (by decide) h (fun h => ?_) (fun h => ?_)
  · refine V_bipush (pc := 94) C (v := 40) dX8_join_94 rfl ?_
    refine V_iload_n (pc := 96) C dX8_join_96 rfl 1 rfl ?_
    refine V_imul (pc := 97) C dX8_join_97 ?_
    refine V_nI fun v9 e9 => ?_
    replace h := h v9 e9; clear e9
    refine V_istore (pc := 98) C dX8_join_98 (by decide) rfl ?_
    refine V_aload_n (pc := 100) C dX8_join_100 rfl 1 rfl ?_
    refine V_getF (pc := 101) C hT f1_X8_28 g1006 dX8_join_101 ?_
    refine V_iload_n (pc := 104) C dX8_join_104 rfl 2 rfl ?_
    refine V_mld (pc := 105) C hT tb1_arr (n := 30) (c9 := 128) rfl rfl rfl h dX8_join_105 (fun h => ?_)
    refine V_nI fun v10 e9 => ?_
    replace h := h v10 e9; clear e9
    refine V_istore (pc := 106) C dX8_join_106 (by decide) rfl ?_
    refine V_sub [2, 3, 4, 5, 1, 0] rfl ?_
    obtain ⟨n9, h⟩ := h
    exact k_X8_join_108 hT hl C hr hnm htab  n9 h
  · refine V_iconst (pc := 92) C (v := 0) dX8_join_92 rfl ?_
    exact V_iret (pc := 93) C hr rfl h dX8_join_93
def w_X8_join_50  (Q : Nat → Int32 → Sg → Prop) (x1 : Int32) (x2 : Int32) (x3 : Int32) (y0 : Int32) (S : Sg) : Prop := (w_X8_isShow x1 S (fun k13 v12 S11 => (k13 = 0 → ((v12 = 0 → w_X8_join_86  Q x1 x2 x3 1 S11) ∧ (¬ v12 = 0 → (w_X8_isAge x2 S11 (fun k16 v15 S14 => (k16 = 0 → ((v15 = 0 → w_X8_join_86  Q x1 x2 x3 2 S14) ∧ (¬ v15 = 0 → ((y0 = 0 → w_X8_join_86  Q x1 x2 x3 3 S14) ∧ (¬ y0 = 0 → w_X8_join_86  Q x1 x2 x3 0 S14))))) ∧ (¬ k16 = 0 → Q k16 0 S14)))))) ∧ (¬ k13 = 0 → Q k13 0 S11)))
theorem k_X8_join_50 (hT : xT X = tb1) (hl : l.stackTraces = false) (C : Cn X k0 p l R s m meth c cX8_join RX8 7 3 45) (hr : meth.sig.returnType = (some .int)) (hnm : meth.name = yX8_join.name) (htab : ∀ x ∈ c.exceptionTable.toList, False)  {x1 : Int32} {x2 : Int32} {x3 : Int32} {y0 : Int32} {S : Sg} (h : w_X8_join_50  Qa x1 x2 x3 y0 S) : V X p l e R s m args below meth c 7 (QM X below args s S0 ad0 rvI Qa) S0 ad0 S 50 [(0, Value.ref (enc 12 0)), (1, Value.int x1), (2, Value.int x2), (3, Value.int x3)] [Value.int y0] := by
  refine V_istore (pc := 50) C dX8_join_50 (by decide) rfl ?_
  refine V_aload_n (pc := 52) C dX8_join_52 rfl 1 rfl ?_
  refine V_aload_n (pc := 53) C dX8_join_53 rfl 1 rfl ?_
  refine V_iload_n (pc := 54) C dX8_join_54 rfl 2 rfl ?_
  refine V_callV (pc := 55) C (ct_X8_isShow hT hl h) g1174 g1176 g38 g1177 g64 ⟨by decide, by decide, pl_X8_isShow⟩ (enc_ne63 (by decide)) (ct_obj hT rfl (by decide)) rfl ⟨by decide, by decide⟩ (rest := [Value.ref (enc 12 0)]) rfl (le8 rfl) dX8_join_55 (fun v12 S11 h => ?_) (fun k9 S9 hk h => VX_out C htab hk (h.2 (by omega)))
  replace h := h.1 rfl
  refine V_st (st' := [Value.int v12, Value.ref (enc 12 0)]) rfl ?_
  refine V_if_ne (pc := 58) (tgt := 65) C dX8_join_58 (by decide) h (fun h => ?_) (fun h => ?_)
  · refine V_iload_n (pc := 65) C dX8_join_65 rfl 3 rfl ?_
    refine V_callS (pc := 66) C (ct_X8_isAge hT hl h) g1238 g1239 g1240 g64 ⟨by decide, by decide, pl_X8_isAge⟩ ⟨by decide, by decide⟩ (rest := [Value.ref (enc 12 0)]) rfl (le8 rfl) dX8_join_66 (fun v15 S14 h => ?_) (fun k9 S9 hk h => VX_out C htab hk (h.2 (by omega)))
    replace h := h.1 rfl
    refine V_st (st' := [Value.int v15, Value.ref (enc 12 0)]) rfl ?_
    refine V_if_ne (pc := 69) (tgt := 76) C dX8_join_69 (by decide) h (fun h => ?_) (fun h => ?_)
    · refine V_iload (pc := 76) C dX8_join_76 0 rfl ?_
      refine V_if_eq (pc := 78) (tgt := 85) C dX8_join_78 (by decide) h (fun h => ?_) (fun h => ?_)
      · refine V_iconst (pc := 85) C (v := 3) dX8_join_85 rfl ?_
        refine V_sub [1, 2, 3, 4] rfl ?_
        exact k_X8_join_86 hT hl C hr hnm htab  h
      · refine V_iconst (pc := 81) C (v := 0) dX8_join_81 rfl ?_
        refine V_goto (pc := 82) (tgt := 86) C dX8_join_82 (by decide) ?_
        refine V_sub [1, 2, 3, 4] rfl ?_
        exact k_X8_join_86 hT hl C hr hnm htab  h
    · refine V_iconst (pc := 72) C (v := 2) dX8_join_72 rfl ?_
      refine V_goto (pc := 73) (tgt := 86) C dX8_join_73 (by decide) ?_
      refine V_sub [1, 2, 3, 4] rfl ?_
      exact k_X8_join_86 hT hl C hr hnm htab  h
  · refine V_iconst (pc := 61) C (v := 1) dX8_join_61 rfl ?_
    refine V_goto (pc := 62) (tgt := 86) C dX8_join_62 (by decide) ?_
    refine V_sub [1, 2, 3, 4] rfl ?_
    exact k_X8_join_86 hT hl C hr hnm htab  h
def w_X8_join_49  (Q : Nat → Int32 → Sg → Prop) (x1 : Int32) (x2 : Int32) (x3 : Int32) (S : Sg) : Prop := w_X8_join_50  Q x1 x2 x3 0 S
theorem k_X8_join_49 (hT : xT X = tb1) (hl : l.stackTraces = false) (C : Cn X k0 p l R s m meth c cX8_join RX8 7 3 45) (hr : meth.sig.returnType = (some .int)) (hnm : meth.name = yX8_join.name) (htab : ∀ x ∈ c.exceptionTable.toList, False)  {x1 : Int32} {x2 : Int32} {x3 : Int32} {S : Sg} (h : w_X8_join_49  Qa x1 x2 x3 S) : V X p l e R s m args below meth c 7 (QM X below args s S0 ad0 rvI Qa) S0 ad0 S 49 [(0, Value.ref (enc 12 0)), (1, Value.int x1), (2, Value.int x2), (3, Value.int x3)] [] := by
  refine V_iconst (pc := 49) C (v := 0) dX8_join_49 rfl ?_
  refine V_sub [0, 1, 2, 3] rfl ?_
  exact k_X8_join_50 hT hl C hr hnm htab  h
def w_X8_join (a1 : Int32) (a2 : Int32) (a3 : Int32) (S : Sg) (Q : Nat → Int32 → Sg → Prop) : Prop := (w_X8_isShow a1 S (fun k19 v18 S17 => (k19 = 0 → ((v18 = 0 → w_X8_join_49  Q a1 a2 a3 S17) ∧ (¬ v18 = 0 → (vp_in a1 30 ∧ (((S17.1 125 (nt a1)) = 0 → (w_X8_isFull a1 S17 (fun k22 v21 S20 => (k22 = 0 → ((v21 = 0 → w_X8_join_49  Q a1 a2 a3 S20) ∧ (¬ v21 = 0 → (w_X8_canSee a1 a2 S20 (fun k25 v24 S23 => (k25 = 0 → ((v24 = 0 → w_X8_join_49  Q a1 a2 a3 S23) ∧ (¬ v24 = 0 → (vp_in a1 30 ∧ ((40 ≤ (S23.1 128 (nt a1)) → w_X8_join_49  Q a1 a2 a3 S23) ∧ (¬ 40 ≤ (S23.1 128 (nt a1)) → w_X8_join_50  Q a1 a2 a3 1 S23)))))) ∧ (¬ k25 = 0 → Q k25 0 S23)))))) ∧ (¬ k22 = 0 → Q k22 0 S20)))) ∧ (¬ (S17.1 125 (nt a1)) = 0 → w_X8_join_49  Q a1 a2 a3 S17)))))) ∧ (¬ k19 = 0 → Q k19 0 S17)))
theorem ct_X8_join (hT : xT X = tb1) (hl : l.stackTraces = false) {a1 : Int32} {a2 : Int32} {a3 : Int32} {S : Sg} (h : w_X8_join a1 a2 a3 S Qa) : CT X k0 l yX8_join cX8_join 7 (some .int) 3 45 [Value.ref (enc 12 0), Value.int a1, Value.int a2, Value.int a3] rvI S Qa :=
  CT_ofV (own := RX8) (by decide +kernel) (le8 rfl) rfl hl fun p e R s m args below meth c ad0 C hr hnm htab => by
    refine V_aload_n (pc := 0) C dX8_join_0 rfl 0 rfl ?_
    refine V_iload_n (pc := 1) C dX8_join_1 rfl 1 rfl ?_
    refine V_callV (pc := 2) C (ct_X8_isShow hT hl h) g1174 g1176 g38 g1177 g64 ⟨by decide, by decide, pl_X8_isShow⟩ (enc_ne63 (by decide)) (ct_obj hT rfl (by decide)) rfl ⟨by decide, by decide⟩ (rest := []) rfl (le8 rfl) dX8_join_2 (fun v18 S17 h => ?_) (fun k9 S9 hk h => VX_out C htab hk (h.2 (by omega)))
    replace h := h.1 rfl
    refine V_st (st' := [Value.int v18]) rfl ?_
    refine V_if_eq (pc := 5) (tgt := 49) C dX8_join_5 (by decide) h (fun h => ?_) (fun h => ?_)
    · refine V_sub [0, 1, 2, 3] rfl ?_
      exact k_X8_join_49 hT hl C hr hnm htab  h
    · refine V_aload_n (pc := 8) C dX8_join_8 rfl 0 rfl ?_
      refine V_getF (pc := 9) C hT f1_X8_25 g1003 dX8_join_9 ?_
      refine V_iload_n (pc := 12) C dX8_join_12 rfl 1 rfl ?_
      refine V_mld (pc := 13) C hT tb1_arr (n := 30) (c9 := 125) rfl rfl rfl h dX8_join_13 (fun h => ?_)
      refine V_if_ne (pc := 14) (tgt := 49) C dX8_join_14 (by decide) h (fun h => ?_) (fun h => ?_)
      · refine V_sub [0, 1, 2, 3] rfl ?_
        exact k_X8_join_49 hT hl C hr hnm htab  h
      · refine V_aload_n (pc := 17) C dX8_join_17 rfl 0 rfl ?_
        refine V_iload_n (pc := 18) C dX8_join_18 rfl 1 rfl ?_
        refine V_callV (pc := 19) C (ct_X8_isFull hT hl h) g1265 g1267 g51 g1268 g64 ⟨by decide, by decide, pl_X8_isFull⟩ (enc_ne63 (by decide)) (ct_obj hT rfl (by decide)) rfl ⟨by decide, by decide⟩ (rest := []) rfl (le8 rfl) dX8_join_19 (fun v21 S20 h => ?_) (fun k9 S9 hk h => VX_out C htab hk (h.2 (by omega)))
        replace h := h.1 rfl
        refine V_st (st' := [Value.int v21]) rfl ?_
        refine V_if_eq (pc := 22) (tgt := 49) C dX8_join_22 (by decide) h (fun h => ?_) (fun h => ?_)
        · refine V_sub [0, 1, 2, 3] rfl ?_
          exact k_X8_join_49 hT hl C hr hnm htab  h
        · refine V_aload_n (pc := 25) C dX8_join_25 rfl 0 rfl ?_
          refine V_iload_n (pc := 26) C dX8_join_26 rfl 1 rfl ?_
          refine V_iload_n (pc := 27) C dX8_join_27 rfl 2 rfl ?_
          refine V_callV (pc := 28) C (ct_X8_canSee hT hl h) g1234 g1236 g48 g1237 g64 ⟨by decide, by decide, pl_X8_canSee⟩ (enc_ne63 (by decide)) (ct_obj hT rfl (by decide)) rfl ⟨by decide, by decide⟩ (rest := []) rfl (le8 rfl) dX8_join_28 (fun v24 S23 h => ?_) (fun k9 S9 hk h => VX_out C htab hk (h.2 (by omega)))
          replace h := h.1 rfl
          refine V_st (st' := [Value.int v24]) rfl ?_
          refine V_if_eq (pc := 31) (tgt := 49) C dX8_join_31 (by decide) h (fun h => ?_) (fun h => ?_)
          · refine V_sub [0, 1, 2, 3] rfl ?_
            exact k_X8_join_49 hT hl C hr hnm htab  h
          · refine V_aload_n (pc := 34) C dX8_join_34 rfl 0 rfl ?_
            refine V_getF (pc := 35) C hT f1_X8_28 g1006 dX8_join_35 ?_
            refine V_iload_n (pc := 38) C dX8_join_38 rfl 1 rfl ?_
            refine V_mld (pc := 39) C hT tb1_arr (n := 30) (c9 := 128) rfl rfl rfl h dX8_join_39 (fun h => ?_)
            refine V_bipush (pc := 40) C (v := 40) dX8_join_40 rfl ?_
            refine V_icmp_ge (pc := 42) (tgt := 49) C dX8_join_42 (by decide) h (fun h => ?_) (fun h => ?_)
            · refine V_sub [0, 1, 2, 3] rfl ?_
              exact k_X8_join_49 hT hl C hr hnm htab  h
            · refine V_iconst (pc := 45) C (v := 1) dX8_join_45 rfl ?_
              refine V_goto (pc := 46) (tgt := 50) C dX8_join_46 (by decide) ?_
              refine V_sub [0, 1, 2, 3] rfl ?_
              exact k_X8_join_50 hT hl C hr hnm htab  h
theorem pl_X8_fits : (parseMethodDescriptor yX8_fits.desc).map (fun d => d.parameters.length) = some 3 := by decide +kernel
def w_X8_fits_53  (Q : Nat → Int32 → Sg → Prop) (x1 : Int32) (x2 : Int32) (x3 : Int32) (y0 : Int32) (S : Sg) : Prop := (w_X8_fails y0 S (fun k3 v2 S1 => (k3 = 0 → ((v2 = 0 → (w_X8_reason x1 x2 x3 S1 (fun k6 v5 S4 => (k6 = 0 → Q 0 v5 S4) ∧ (¬ k6 = 0 → Q k6 0 S4)))) ∧ (¬ v2 = 0 → Q 0 0 S1))) ∧ (¬ k3 = 0 → Q k3 0 S1)))
theorem k_X8_fits_53 (hT : xT X = tb1) (hl : l.stackTraces = false) (C : Cn X k0 p l R s m meth c cX8_fits RX8 5 3 52) (hr : meth.sig.returnType = (some .int)) (hnm : meth.name = yX8_fits.name) (htab : ∀ x ∈ c.exceptionTable.toList, False)  {x1 : Int32} {x2 : Int32} {x3 : Int32} {y0 : Int32} {S : Sg} (h : w_X8_fits_53  Qa x1 x2 x3 y0 S) : V X p l e R s m args below meth c 5 (QM X below args s S0 ad0 rvI Qa) S0 ad0 S 53 [(0, Value.ref (enc 12 0)), (1, Value.int x1), (2, Value.int x2), (3, Value.int x3)] [Value.int y0, Value.ref (enc 12 0)] := by
  refine V_callV (pc := 53) C (ct_X8_fails hT hl h) g1120 g1122 g32 g1123 g64 ⟨by decide, by decide, pl_X8_fails⟩ (enc_ne63 (by decide)) (ct_obj hT rfl (by decide)) rfl ⟨by decide, by decide⟩ (rest := []) rfl (le8 rfl) dX8_fits_53 (fun v2 S1 h => ?_) (fun k9 S9 hk h => VX_out C htab hk (h.2 (by omega)))
  replace h := h.1 rfl
  refine V_st (st' := [Value.int v2]) rfl ?_
  refine V_if_eq (pc := 56) (tgt := 63) C dX8_fits_56 (by decide) h (fun h => ?_) (fun h => ?_)
  · refine V_aload_n (pc := 63) C dX8_fits_63 rfl 0 rfl ?_
    refine V_iload_n (pc := 64) C dX8_fits_64 rfl 1 rfl ?_
    refine V_iload_n (pc := 65) C dX8_fits_65 rfl 2 rfl ?_
    refine V_iload_n (pc := 66) C dX8_fits_66 rfl 3 rfl ?_
    refine V_callV (pc := 67) C (ct_X8_reason hT hl h) g1158 g1160 g35 g1161 g64 ⟨by decide, by decide, pl_X8_reason⟩ (enc_ne63 (by decide)) (ct_obj hT rfl (by decide)) rfl ⟨by decide, by decide⟩ (rest := []) rfl (le8 rfl) dX8_fits_67 (fun v5 S4 h => ?_) (fun k9 S9 hk h => VX_out C htab hk (h.2 (by omega)))
    replace h := h.1 rfl
    refine V_st (st' := [Value.int v5]) rfl ?_
    exact V_iret (pc := 70) C hr rfl h dX8_fits_70
  · refine V_iconst (pc := 59) C (v := 0) dX8_fits_59 rfl ?_
    refine V_goto (pc := 60) (tgt := 70) C dX8_fits_60 (by decide) ?_
    exact V_iret (pc := 70) C hr rfl h dX8_fits_70
def w_X8_fits_21  (Q : Nat → Int32 → Sg → Prop) (x1 : Int32) (x2 : Int32) (x3 : Int32) (y0 : Int32) (S : Sg) : Prop := ((y0 = 0 → w_X8_fits_53  Q x1 x2 x3 1 S) ∧ (¬ y0 = 0 → (w_X8_isIn x3 ((S.1 300 0) + 1) 100000 S (fun k9 v8 S7 => (k9 = 0 → ((v8 = 0 → w_X8_fits_53  Q x1 x2 x3 2 S7) ∧ (¬ v8 = 0 → w_X8_fits_53  Q x1 x2 x3 0 S7))) ∧ (¬ k9 = 0 → Q k9 0 S7)))))
theorem k_X8_fits_21 (hT : xT X = tb1) (hl : l.stackTraces = false) (C : Cn X k0 p l R s m meth c cX8_fits RX8 5 3 52) (hr : meth.sig.returnType = (some .int)) (hnm : meth.name = yX8_fits.name) (htab : ∀ x ∈ c.exceptionTable.toList, False)  {x1 : Int32} {x2 : Int32} {x3 : Int32} {y0 : Int32} {S : Sg} (h : w_X8_fits_21  Qa x1 x2 x3 y0 S) : V X p l e R s m args below meth c 5 (QM X below args s S0 ad0 rvI Qa) S0 ad0 S 21 [(0, Value.ref (enc 12 0)), (1, Value.int x1), (2, Value.int x2), (3, Value.int x3)] [Value.int y0] := by
  refine V_istore (pc := 21) C dX8_fits_21 (by decide) rfl ?_
  refine V_aload_n (pc := 23) C dX8_fits_23 rfl 1 rfl ?_
  refine V_iload (pc := 24) C dX8_fits_24 0 rfl ?_
  refine V_if_ne (pc := 26) (tgt := 33) C dX8_fits_26 (by decide) h (fun h => ?_) (fun h => ?_)
  · refine V_iload_n (pc := 33) C dX8_fits_33 rfl 4 rfl ?_
    refine V_aload_n (pc := 34) C dX8_fits_34 rfl 1 rfl ?_
    refine V_getI (pc := 35) C hT f1_X8_0 g978 dX8_fits_35 ?_
    refine V_iconst (pc := 38) C (v := 1) dX8_fits_38 rfl ?_
    refine V_iadd (pc := 39) C dX8_fits_39 ?_
    refine V_ldc (pc := 40) C g1132 dX8_fits_40 ?_
    refine V_callS (pc := 42) C (ct_X8_isIn hT hl h) g1117 g1118 g1119 g64 ⟨by decide, by decide, pl_X8_isIn⟩ ⟨by decide, by decide⟩ (rest := [Value.ref (enc 12 0)]) rfl (le8 rfl) dX8_fits_42 (fun v8 S7 h => ?_) (fun k9 S9 hk h => VX_out C htab hk (h.2 (by omega)))
    replace h := h.1 rfl
    refine V_st (st' := [Value.int v8, Value.ref (enc 12 0)]) rfl ?_
    refine V_if_eq (pc := 45) (tgt := 52) C dX8_fits_45 (by decide) h (fun h => ?_) (fun h => ?_)
    · refine V_iconst (pc := 52) C (v := 2) dX8_fits_52 rfl ?_
      refine V_sub [1, 2, 3, 4] rfl ?_
      exact k_X8_fits_53 hT hl C hr hnm htab  h
    · refine V_iconst (pc := 48) C (v := 0) dX8_fits_48 rfl ?_
      refine V_goto (pc := 49) (tgt := 53) C dX8_fits_49 (by decide) ?_
      refine V_sub [1, 2, 3, 4] rfl ?_
      exact k_X8_fits_53 hT hl C hr hnm htab  h
  · refine V_iconst (pc := 29) C (v := 1) dX8_fits_29 rfl ?_
    refine V_goto (pc := 30) (tgt := 53) C dX8_fits_30 (by decide) ?_
    refine V_sub [1, 2, 3, 4] rfl ?_
    exact k_X8_fits_53 hT hl C hr hnm htab  h
def w_X8_fits_20  (Q : Nat → Int32 → Sg → Prop) (x1 : Int32) (x2 : Int32) (x3 : Int32) (S : Sg) : Prop := w_X8_fits_21  Q x1 x2 x3 0 S
theorem k_X8_fits_20 (hT : xT X = tb1) (hl : l.stackTraces = false) (C : Cn X k0 p l R s m meth c cX8_fits RX8 5 3 52) (hr : meth.sig.returnType = (some .int)) (hnm : meth.name = yX8_fits.name) (htab : ∀ x ∈ c.exceptionTable.toList, False)  {x1 : Int32} {x2 : Int32} {x3 : Int32} {S : Sg} (h : w_X8_fits_20  Qa x1 x2 x3 S) : V X p l e R s m args below meth c 5 (QM X below args s S0 ad0 rvI Qa) S0 ad0 S 20 [(0, Value.ref (enc 12 0)), (1, Value.int x1), (2, Value.int x2), (3, Value.int x3)] [] := by
  refine V_iconst (pc := 20) C (v := 0) dX8_fits_20 rfl ?_
  refine V_sub [0, 1, 2, 3] rfl ?_
  exact k_X8_fits_21 hT hl C hr hnm htab  h
def w_X8_fits (a1 : Int32) (a2 : Int32) (a3 : Int32) (S : Sg) (Q : Nat → Int32 → Sg → Prop) : Prop := (w_X8_isFilm a1 S (fun k12 v11 S10 => (k12 = 0 → ((v11 = 0 → w_X8_fits_20  Q a1 a2 a3 S10) ∧ (¬ v11 = 0 → (w_X8_isHall a2 S10 (fun k15 v14 S13 => (k15 = 0 → ((v14 = 0 → w_X8_fits_20  Q a1 a2 a3 S13) ∧ (¬ v14 = 0 → w_X8_fits_21  Q a1 a2 a3 1 S13))) ∧ (¬ k15 = 0 → Q k15 0 S13)))))) ∧ (¬ k12 = 0 → Q k12 0 S10)))
theorem ct_X8_fits (hT : xT X = tb1) (hl : l.stackTraces = false) {a1 : Int32} {a2 : Int32} {a3 : Int32} {S : Sg} (h : w_X8_fits a1 a2 a3 S Qa) : CT X k0 l yX8_fits cX8_fits 5 (some .int) 3 52 [Value.ref (enc 12 0), Value.int a1, Value.int a2, Value.int a3] rvI S Qa :=
  CT_ofV (own := RX8) (by decide +kernel) (le8 rfl) rfl hl fun p e R s m args below meth c ad0 C hr hnm htab => by
    refine V_aload_n (pc := 0) C dX8_fits_0 rfl 0 rfl ?_
    refine V_iload_n (pc := 1) C dX8_fits_1 rfl 1 rfl ?_
    refine V_callV (pc := 2) C (ct_X8_isFilm hT hl h) g1141 g1143 g34 g1144 g64 ⟨by decide, by decide, pl_X8_isFilm⟩ (enc_ne63 (by decide)) (ct_obj hT rfl (by decide)) rfl ⟨by decide, by decide⟩ (rest := []) rfl (le8 rfl) dX8_fits_2 (fun v11 S10 h => ?_) (fun k9 S9 hk h => VX_out C htab hk (h.2 (by omega)))
    replace h := h.1 rfl
    refine V_st (st' := [Value.int v11]) rfl ?_
    refine V_if_eq (pc := 5) (tgt := 20) C dX8_fits_5 (by decide) h (fun h => ?_) (fun h => ?_)
    · refine V_sub [0, 1, 2, 3] rfl ?_
      exact k_X8_fits_20 hT hl C hr hnm htab  h
    · refine V_aload_n (pc := 8) C dX8_fits_8 rfl 0 rfl ?_
      refine V_iload_n (pc := 9) C dX8_fits_9 rfl 2 rfl ?_
      refine V_callV (pc := 10) C (ct_X8_isHall hT hl h) g1128 g1130 g33 g1131 g64 ⟨by decide, by decide, pl_X8_isHall⟩ (enc_ne63 (by decide)) (ct_obj hT rfl (by decide)) rfl ⟨by decide, by decide⟩ (rest := []) rfl (le8 rfl) dX8_fits_10 (fun v14 S13 h => ?_) (fun k9 S9 hk h => VX_out C htab hk (h.2 (by omega)))
      replace h := h.1 rfl
      refine V_st (st' := [Value.int v14]) rfl ?_
      refine V_if_eq (pc := 13) (tgt := 20) C dX8_fits_13 (by decide) h (fun h => ?_) (fun h => ?_)
      · refine V_sub [0, 1, 2, 3] rfl ?_
        exact k_X8_fits_20 hT hl C hr hnm htab  h
      · refine V_iconst (pc := 16) C (v := 1) dX8_fits_16 rfl ?_
        refine V_goto (pc := 17) (tgt := 21) C dX8_fits_17 (by decide) ?_
        refine V_sub [0, 1, 2, 3] rfl ?_
        exact k_X8_fits_21 hT hl C hr hnm htab  h
theorem pl_X8_first : (parseMethodDescriptor yX8_first.desc).map (fun d => d.parameters.length) = some 3 := by decide +kernel
def w_X8_first_64  (Q : Nat → Int32 → Sg → Prop) : Nat → Int32 → Int32 → Int32 → Int32 → Sg → Prop
  | 0, _, _, _, _, _ => False
  | n + 1, x1, x2, x3, x5, S => (((x3 + 10080) < x5 → Q 0 (-1) S) ∧ (¬ (x3 + 10080) < x5 → ((100000 < x5 → Q 0 (-1) S) ∧ (¬ 100000 < x5 → (w_X8_reason x1 x2 x5 S (fun k3 v2 S1 => (k3 = 0 → ((v2 = 0 → Q 0 x5 S1) ∧ (¬ v2 = 0 → w_X8_first_64  Q n x1 x2 x3 (x5 + 1) S1))) ∧ (¬ k3 = 0 → Q k3 0 S1)))))))
theorem k_X8_first_64 (hT : xT X = tb1) (hl : l.stackTraces = false) (C : Cn X k0 p l R s m meth c cX8_first RX8 6 3 52) (hr : meth.sig.returnType = (some .int)) (hnm : meth.name = yX8_first.name) (htab : ∀ x ∈ c.exceptionTable.toList, False)  : ∀ n {x1 : Int32} {x2 : Int32} {x3 : Int32} {x5 : Int32} {S : Sg}, w_X8_first_64  Qa n x1 x2 x3 x5 S → V X p l e R s m args below meth c 6 (QM X below args s S0 ad0 rvI Qa) S0 ad0 S 64 [(0, Value.ref (enc 12 0)), (1, Value.int x1), (2, Value.int x2), (3, Value.int x3), (5, Value.int x5)] [] := by
  intro n
  induction n with
  | zero => intro x1 x2 x3 x5 S h; exact h.elim
  | succ n ih =>
    intro x1 x2 x3 x5 S h
    refine V_iload (pc := 64) C dX8_first_64 4 rfl ?_
    refine V_iload_n (pc := 66) C dX8_first_66 rfl 3 rfl ?_
    refine V_sipush (pc := 67) C (v := 10080) dX8_first_67 rfl ?_
    refine V_iadd (pc := 70) C dX8_first_70 ?_
    refine V_icmp_gt (pc := 71) (tgt := 101) C dX8_first_71 (by decide) h (fun h => ?_) (fun h => ?_)
    · refine V_iconst (pc := 101) C (v := (-1)) dX8_first_101 rfl ?_
      exact V_iret (pc := 102) C hr rfl h dX8_first_102
    · refine V_iload (pc := 74) C dX8_first_74 4 rfl ?_
      refine V_ldc (pc := 76) C g1132 dX8_first_76 ?_
      refine V_icmp_gt (pc := 78) (tgt := 101) C dX8_first_78 (by decide) h (fun h => ?_) (fun h => ?_)
      · refine V_iconst (pc := 101) C (v := (-1)) dX8_first_101 rfl ?_
        exact V_iret (pc := 102) C hr rfl h dX8_first_102
      · refine V_aload_n (pc := 81) C dX8_first_81 rfl 0 rfl ?_
        refine V_iload_n (pc := 82) C dX8_first_82 rfl 1 rfl ?_
        refine V_iload_n (pc := 83) C dX8_first_83 rfl 2 rfl ?_
        refine V_iload (pc := 84) C dX8_first_84 4 rfl ?_
        refine V_callV (pc := 86) C (ct_X8_reason hT hl h) g1158 g1160 g35 g1161 g64 ⟨by decide, by decide, pl_X8_reason⟩ (enc_ne63 (by decide)) (ct_obj hT rfl (by decide)) rfl ⟨by decide, by decide⟩ (rest := []) rfl (le8 rfl) dX8_first_86 (fun v2 S1 h => ?_) (fun k9 S9 hk h => VX_out C htab hk (h.2 (by omega)))
        replace h := h.1 rfl
        refine V_st (st' := [Value.int v2]) rfl ?_
        refine V_if_ne (pc := 89) (tgt := 95) C dX8_first_89 (by decide) h (fun h => ?_) (fun h => ?_)
        · refine V_iinc (pc := 95) C (a := 4) (v := x5 + 1) dX8_first_95 rfl rfl (by decide) rfl ?_
          refine V_goto (pc := 98) (tgt := 64) C dX8_first_98 (by decide) ?_
          refine V_sub [1, 2, 3, 4, 0] rfl ?_
          exact ih h
        · refine V_iload (pc := 92) C dX8_first_92 4 rfl ?_
          exact V_iret (pc := 94) C hr rfl h dX8_first_94
def w_X8_first_53  (Q : Nat → Int32 → Sg → Prop) (x1 : Int32) (x2 : Int32) (x3 : Int32) (y0 : Int32) (S : Sg) : Prop := (w_X8_fails y0 S (fun k6 v5 S4 => (k6 = 0 → ((v5 = 0 → ∃ n9, w_X8_first_64  Q n9 x1 x2 x3 x3 S4) ∧ (¬ v5 = 0 → Q 0 0 S4))) ∧ (¬ k6 = 0 → Q k6 0 S4)))
theorem k_X8_first_53 (hT : xT X = tb1) (hl : l.stackTraces = false) (C : Cn X k0 p l R s m meth c cX8_first RX8 6 3 52) (hr : meth.sig.returnType = (some .int)) (hnm : meth.name = yX8_first.name) (htab : ∀ x ∈ c.exceptionTable.toList, False)  {x1 : Int32} {x2 : Int32} {x3 : Int32} {y0 : Int32} {S : Sg} (h : w_X8_first_53  Qa x1 x2 x3 y0 S) : V X p l e R s m args below meth c 6 (QM X below args s S0 ad0 rvI Qa) S0 ad0 S 53 [(0, Value.ref (enc 12 0)), (1, Value.int x1), (2, Value.int x2), (3, Value.int x3)] [Value.int y0, Value.ref (enc 12 0)] := by
  refine V_callV (pc := 53) C (ct_X8_fails hT hl h) g1120 g1122 g32 g1123 g64 ⟨by decide, by decide, pl_X8_fails⟩ (enc_ne63 (by decide)) (ct_obj hT rfl (by decide)) rfl ⟨by decide, by decide⟩ (rest := []) rfl (le8 rfl) dX8_first_53 (fun v5 S4 h => ?_) (fun k9 S9 hk h => VX_out C htab hk (h.2 (by omega)))
  replace h := h.1 rfl
  refine V_st (st' := [Value.int v5]) rfl ?_
  refine V_if_eq (pc := 56) (tgt := 61) C dX8_first_56 (by decide) h (fun h => ?_) (fun h => ?_)
  · refine V_iload_n (pc := 61) C dX8_first_61 rfl 3 rfl ?_
    refine V_istore (pc := 62) C dX8_first_62 (by decide) rfl ?_
    refine V_sub [1, 2, 3, 4, 0] rfl ?_
    obtain ⟨n9, h⟩ := h
    exact k_X8_first_64 hT hl C hr hnm htab  n9 h
  · refine V_iconst (pc := 59) C (v := 0) dX8_first_59 rfl ?_
    exact V_iret (pc := 60) C hr rfl h dX8_first_60
def w_X8_first_21  (Q : Nat → Int32 → Sg → Prop) (x1 : Int32) (x2 : Int32) (x3 : Int32) (y0 : Int32) (S : Sg) : Prop := ((y0 = 0 → w_X8_first_53  Q x1 x2 x3 1 S) ∧ (¬ y0 = 0 → (w_X8_isIn x3 ((S.1 300 0) + 1) 100000 S (fun k9 v8 S7 => (k9 = 0 → ((v8 = 0 → w_X8_first_53  Q x1 x2 x3 2 S7) ∧ (¬ v8 = 0 → w_X8_first_53  Q x1 x2 x3 0 S7))) ∧ (¬ k9 = 0 → Q k9 0 S7)))))
theorem k_X8_first_21 (hT : xT X = tb1) (hl : l.stackTraces = false) (C : Cn X k0 p l R s m meth c cX8_first RX8 6 3 52) (hr : meth.sig.returnType = (some .int)) (hnm : meth.name = yX8_first.name) (htab : ∀ x ∈ c.exceptionTable.toList, False)  {x1 : Int32} {x2 : Int32} {x3 : Int32} {y0 : Int32} {S : Sg} (h : w_X8_first_21  Qa x1 x2 x3 y0 S) : V X p l e R s m args below meth c 6 (QM X below args s S0 ad0 rvI Qa) S0 ad0 S 21 [(0, Value.ref (enc 12 0)), (1, Value.int x1), (2, Value.int x2), (3, Value.int x3)] [Value.int y0] := by
  refine V_istore (pc := 21) C dX8_first_21 (by decide) rfl ?_
  refine V_aload_n (pc := 23) C dX8_first_23 rfl 1 rfl ?_
  refine V_iload (pc := 24) C dX8_first_24 0 rfl ?_
  refine V_if_ne (pc := 26) (tgt := 33) C dX8_first_26 (by decide) h (fun h => ?_) (fun h => ?_)
  · refine V_iload_n (pc := 33) C dX8_first_33 rfl 4 rfl ?_
    refine V_aload_n (pc := 34) C dX8_first_34 rfl 1 rfl ?_
    refine V_getI (pc := 35) C hT f1_X8_0 g978 dX8_first_35 ?_
    refine V_iconst (pc := 38) C (v := 1) dX8_first_38 rfl ?_
    refine V_iadd (pc := 39) C dX8_first_39 ?_
    refine V_ldc (pc := 40) C g1132 dX8_first_40 ?_
    refine V_callS (pc := 42) C (ct_X8_isIn hT hl h) g1117 g1118 g1119 g64 ⟨by decide, by decide, pl_X8_isIn⟩ ⟨by decide, by decide⟩ (rest := [Value.ref (enc 12 0)]) rfl (le8 rfl) dX8_first_42 (fun v8 S7 h => ?_) (fun k9 S9 hk h => VX_out C htab hk (h.2 (by omega)))
    replace h := h.1 rfl
    refine V_st (st' := [Value.int v8, Value.ref (enc 12 0)]) rfl ?_
    refine V_if_eq (pc := 45) (tgt := 52) C dX8_first_45 (by decide) h (fun h => ?_) (fun h => ?_)
    · refine V_iconst (pc := 52) C (v := 2) dX8_first_52 rfl ?_
      refine V_sub [1, 2, 3, 4] rfl ?_
      exact k_X8_first_53 hT hl C hr hnm htab  h
    · refine V_iconst (pc := 48) C (v := 0) dX8_first_48 rfl ?_
      refine V_goto (pc := 49) (tgt := 53) C dX8_first_49 (by decide) ?_
      refine V_sub [1, 2, 3, 4] rfl ?_
      exact k_X8_first_53 hT hl C hr hnm htab  h
  · refine V_iconst (pc := 29) C (v := 1) dX8_first_29 rfl ?_
    refine V_goto (pc := 30) (tgt := 53) C dX8_first_30 (by decide) ?_
    refine V_sub [1, 2, 3, 4] rfl ?_
    exact k_X8_first_53 hT hl C hr hnm htab  h
def w_X8_first_20  (Q : Nat → Int32 → Sg → Prop) (x1 : Int32) (x2 : Int32) (x3 : Int32) (S : Sg) : Prop := w_X8_first_21  Q x1 x2 x3 0 S
theorem k_X8_first_20 (hT : xT X = tb1) (hl : l.stackTraces = false) (C : Cn X k0 p l R s m meth c cX8_first RX8 6 3 52) (hr : meth.sig.returnType = (some .int)) (hnm : meth.name = yX8_first.name) (htab : ∀ x ∈ c.exceptionTable.toList, False)  {x1 : Int32} {x2 : Int32} {x3 : Int32} {S : Sg} (h : w_X8_first_20  Qa x1 x2 x3 S) : V X p l e R s m args below meth c 6 (QM X below args s S0 ad0 rvI Qa) S0 ad0 S 20 [(0, Value.ref (enc 12 0)), (1, Value.int x1), (2, Value.int x2), (3, Value.int x3)] [] := by
  refine V_iconst (pc := 20) C (v := 0) dX8_first_20 rfl ?_
  refine V_sub [0, 1, 2, 3] rfl ?_
  exact k_X8_first_21 hT hl C hr hnm htab  h
def w_X8_first (a1 : Int32) (a2 : Int32) (a3 : Int32) (S : Sg) (Q : Nat → Int32 → Sg → Prop) : Prop := (w_X8_isFilm a1 S (fun k12 v11 S10 => (k12 = 0 → ((v11 = 0 → w_X8_first_20  Q a1 a2 a3 S10) ∧ (¬ v11 = 0 → (w_X8_isHall a2 S10 (fun k15 v14 S13 => (k15 = 0 → ((v14 = 0 → w_X8_first_20  Q a1 a2 a3 S13) ∧ (¬ v14 = 0 → w_X8_first_21  Q a1 a2 a3 1 S13))) ∧ (¬ k15 = 0 → Q k15 0 S13)))))) ∧ (¬ k12 = 0 → Q k12 0 S10)))
theorem ct_X8_first (hT : xT X = tb1) (hl : l.stackTraces = false) {a1 : Int32} {a2 : Int32} {a3 : Int32} {S : Sg} (h : w_X8_first a1 a2 a3 S Qa) : CT X k0 l yX8_first cX8_first 6 (some .int) 3 52 [Value.ref (enc 12 0), Value.int a1, Value.int a2, Value.int a3] rvI S Qa :=
  CT_ofV (own := RX8) (by decide +kernel) (le8 rfl) rfl hl fun p e R s m args below meth c ad0 C hr hnm htab => by
    refine V_aload_n (pc := 0) C dX8_first_0 rfl 0 rfl ?_
    refine V_iload_n (pc := 1) C dX8_first_1 rfl 1 rfl ?_
    refine V_callV (pc := 2) C (ct_X8_isFilm hT hl h) g1141 g1143 g34 g1144 g64 ⟨by decide, by decide, pl_X8_isFilm⟩ (enc_ne63 (by decide)) (ct_obj hT rfl (by decide)) rfl ⟨by decide, by decide⟩ (rest := []) rfl (le8 rfl) dX8_first_2 (fun v11 S10 h => ?_) (fun k9 S9 hk h => VX_out C htab hk (h.2 (by omega)))
    replace h := h.1 rfl
    refine V_st (st' := [Value.int v11]) rfl ?_
    refine V_if_eq (pc := 5) (tgt := 20) C dX8_first_5 (by decide) h (fun h => ?_) (fun h => ?_)
    · refine V_sub [0, 1, 2, 3] rfl ?_
      exact k_X8_first_20 hT hl C hr hnm htab  h
    · refine V_aload_n (pc := 8) C dX8_first_8 rfl 0 rfl ?_
      refine V_iload_n (pc := 9) C dX8_first_9 rfl 2 rfl ?_
      refine V_callV (pc := 10) C (ct_X8_isHall hT hl h) g1128 g1130 g33 g1131 g64 ⟨by decide, by decide, pl_X8_isHall⟩ (enc_ne63 (by decide)) (ct_obj hT rfl (by decide)) rfl ⟨by decide, by decide⟩ (rest := []) rfl (le8 rfl) dX8_first_10 (fun v14 S13 h => ?_) (fun k9 S9 hk h => VX_out C htab hk (h.2 (by omega)))
      replace h := h.1 rfl
      refine V_st (st' := [Value.int v14]) rfl ?_
      refine V_if_eq (pc := 13) (tgt := 20) C dX8_first_13 (by decide) h (fun h => ?_) (fun h => ?_)
      · refine V_sub [0, 1, 2, 3] rfl ?_
        exact k_X8_first_20 hT hl C hr hnm htab  h
      · refine V_iconst (pc := 16) C (v := 1) dX8_first_16 rfl ?_
        refine V_goto (pc := 17) (tgt := 21) C dX8_first_17 (by decide) ?_
        refine V_sub [0, 1, 2, 3] rfl ?_
        exact k_X8_first_21 hT hl C hr hnm htab  h
theorem pl_X8_price : (parseMethodDescriptor yX8_price.desc).map (fun d => d.parameters.length) = some 2 := by decide +kernel
def w_X8_price_25  (Q : Nat → Int32 → Sg → Prop) (x1 : Int32) (x2 : Int32) (y0 : Int32) (S : Sg) : Prop := (w_X8_fails y0 S (fun k3 v2 S1 => (k3 = 0 → ((v2 = 0 → (w_X8_priceOf x1 x2 S1 (fun k6 v5 S4 => (k6 = 0 → Q 0 v5 S4) ∧ (¬ k6 = 0 → Q k6 0 S4)))) ∧ (¬ v2 = 0 → Q 0 0 S1))) ∧ (¬ k3 = 0 → Q k3 0 S1)))
theorem k_X8_price_25 (hT : xT X = tb1) (hl : l.stackTraces = false) (C : Cn X k0 p l R s m meth c cX8_price RX8 3 3 43) (hr : meth.sig.returnType = (some .int)) (hnm : meth.name = yX8_price.name) (htab : ∀ x ∈ c.exceptionTable.toList, False)  {x1 : Int32} {x2 : Int32} {y0 : Int32} {S : Sg} (h : w_X8_price_25  Qa x1 x2 y0 S) : V X p l e R s m args below meth c 3 (QM X below args s S0 ad0 rvI Qa) S0 ad0 S 25 [(0, Value.ref (enc 12 0)), (1, Value.int x1), (2, Value.int x2)] [Value.int y0, Value.ref (enc 12 0)] := by
  refine V_callV (pc := 25) C (ct_X8_fails hT hl h) g1120 g1122 g32 g1123 g64 ⟨by decide, by decide, pl_X8_fails⟩ (enc_ne63 (by decide)) (ct_obj hT rfl (by decide)) rfl ⟨by decide, by decide⟩ (rest := []) rfl (le8 rfl) dX8_price_25 (fun v2 S1 h => ?_) (fun k9 S9 hk h => VX_out C htab hk (h.2 (by omega)))
  replace h := h.1 rfl
  refine V_st (st' := [Value.int v2]) rfl ?_
  refine V_if_eq (pc := 28) (tgt := 35) C dX8_price_28 (by decide) h (fun h => ?_) (fun h => ?_)
  · refine V_aload_n (pc := 35) C dX8_price_35 rfl 0 rfl ?_
    refine V_iload_n (pc := 36) C dX8_price_36 rfl 1 rfl ?_
    refine V_iload_n (pc := 37) C dX8_price_37 rfl 2 rfl ?_
    refine V_callV (pc := 38) C (ct_X8_priceOf hT hl h) g1202 g1204 g43 g1205 g64 ⟨by decide, by decide, pl_X8_priceOf⟩ (enc_ne63 (by decide)) (ct_obj hT rfl (by decide)) rfl ⟨by decide, by decide⟩ (rest := []) rfl (le8 rfl) dX8_price_38 (fun v5 S4 h => ?_) (fun k9 S9 hk h => VX_out C htab hk (h.2 (by omega)))
    replace h := h.1 rfl
    refine V_st (st' := [Value.int v5]) rfl ?_
    exact V_iret (pc := 41) C hr rfl h dX8_price_41
  · refine V_iconst (pc := 31) C (v := 0) dX8_price_31 rfl ?_
    refine V_goto (pc := 32) (tgt := 41) C dX8_price_32 (by decide) ?_
    exact V_iret (pc := 41) C hr rfl h dX8_price_41
def w_X8_price (a1 : Int32) (a2 : Int32) (S : Sg) (Q : Nat → Int32 → Sg → Prop) : Prop := (w_X8_isShow a1 S (fun k9 v8 S7 => (k9 = 0 → ((v8 = 0 → w_X8_price_25  Q a1 a2 1 S7) ∧ (¬ v8 = 0 → (w_X8_isAge a2 S7 (fun k12 v11 S10 => (k12 = 0 → ((v11 = 0 → w_X8_price_25  Q a1 a2 2 S10) ∧ (¬ v11 = 0 → w_X8_price_25  Q a1 a2 0 S10))) ∧ (¬ k12 = 0 → Q k12 0 S10)))))) ∧ (¬ k9 = 0 → Q k9 0 S7)))
theorem ct_X8_price (hT : xT X = tb1) (hl : l.stackTraces = false) {a1 : Int32} {a2 : Int32} {S : Sg} (h : w_X8_price a1 a2 S Qa) : CT X k0 l yX8_price cX8_price 3 (some .int) 3 43 [Value.ref (enc 12 0), Value.int a1, Value.int a2] rvI S Qa :=
  CT_ofV (own := RX8) (by decide +kernel) (le8 rfl) rfl hl fun p e R s m args below meth c ad0 C hr hnm htab => by
    refine V_aload_n (pc := 0) C dX8_price_0 rfl 0 rfl ?_
    refine V_aload_n (pc := 1) C dX8_price_1 rfl 0 rfl ?_
    refine V_iload_n (pc := 2) C dX8_price_2 rfl 1 rfl ?_
    refine V_callV (pc := 3) C (ct_X8_isShow hT hl h) g1174 g1176 g38 g1177 g64 ⟨by decide, by decide, pl_X8_isShow⟩ (enc_ne63 (by decide)) (ct_obj hT rfl (by decide)) rfl ⟨by decide, by decide⟩ (rest := [Value.ref (enc 12 0)]) rfl (le8 rfl) dX8_price_3 (fun v8 S7 h => ?_) (fun k9 S9 hk h => VX_out C htab hk (h.2 (by omega)))
    replace h := h.1 rfl
    refine V_st (st' := [Value.int v8, Value.ref (enc 12 0)]) rfl ?_
    refine V_if_ne (pc := 6) (tgt := 13) C dX8_price_6 (by decide) h (fun h => ?_) (fun h => ?_)
    · refine V_iload_n (pc := 13) C dX8_price_13 rfl 2 rfl ?_
      refine V_callS (pc := 14) C (ct_X8_isAge hT hl h) g1238 g1239 g1240 g64 ⟨by decide, by decide, pl_X8_isAge⟩ ⟨by decide, by decide⟩ (rest := [Value.ref (enc 12 0)]) rfl (le8 rfl) dX8_price_14 (fun v11 S10 h => ?_) (fun k9 S9 hk h => VX_out C htab hk (h.2 (by omega)))
      replace h := h.1 rfl
      refine V_st (st' := [Value.int v11, Value.ref (enc 12 0)]) rfl ?_
      refine V_if_eq (pc := 17) (tgt := 24) C dX8_price_17 (by decide) h (fun h => ?_) (fun h => ?_)
      · refine V_iconst (pc := 24) C (v := 2) dX8_price_24 rfl ?_
        refine V_sub [0, 1, 2] rfl ?_
        exact k_X8_price_25 hT hl C hr hnm htab  h
      · refine V_iconst (pc := 20) C (v := 0) dX8_price_20 rfl ?_
        refine V_goto (pc := 21) (tgt := 25) C dX8_price_21 (by decide) ?_
        refine V_sub [0, 1, 2] rfl ?_
        exact k_X8_price_25 hT hl C hr hnm htab  h
    · refine V_iconst (pc := 9) C (v := 1) dX8_price_9 rfl ?_
      refine V_goto (pc := 10) (tgt := 25) C dX8_price_10 (by decide) ?_
      refine V_sub [0, 1, 2] rfl ?_
      exact k_X8_price_25 hT hl C hr hnm htab  h
theorem pl_X8_seat : (parseMethodDescriptor yX8_seat.desc).map (fun d => d.parameters.length) = some 3 := by decide +kernel
def w_X8_seat_16  (Q : Nat → Int32 → Sg → Prop) (x1 : Int32) (x2 : Int32) (x3 : Int32) (y0 : Int32) (S : Sg) : Prop := (w_X8_fails y0 S (fun k3 v2 S1 => (k3 = 0 → ((v2 = 0 → (w_X8_seatOf x1 x2 x3 S1 (fun k6 v5 S4 => (k6 = 0 → (∀ v7, v7 = (48 * x1) + v5 → (vp_in v7 1440 ∧ (((S4.1 126 (nt v7)) = (-1) → (vp_in v7 1440 ∧ (((S4.1 127 (nt v7)) = (-1) → Q 0 (-1) S4) ∧ (¬ (S4.1 127 (nt v7)) = (-1) → (vp_in v7 1440 ∧ Q 0 (1000 + (S4.1 127 (nt v7))) S4))))) ∧ (¬ (S4.1 126 (nt v7)) = (-1) → (vp_in v7 1440 ∧ Q 0 (S4.1 126 (nt v7)) S4)))))) ∧ (¬ k6 = 0 → Q k6 0 S4)))) ∧ (¬ v2 = 0 → Q 0 0 S1))) ∧ (¬ k3 = 0 → Q k3 0 S1)))
theorem k_X8_seat_16 (hT : xT X = tb1) (hl : l.stackTraces = false) (C : Cn X k0 p l R s m meth c cX8_seat RX8 5 4 66) (hr : meth.sig.returnType = (some .int)) (hnm : meth.name = yX8_seat.name) (htab : ∀ x ∈ c.exceptionTable.toList, False)  {x1 : Int32} {x2 : Int32} {x3 : Int32} {y0 : Int32} {S : Sg} (h : w_X8_seat_16  Qa x1 x2 x3 y0 S) : V X p l e R s m args below meth c 5 (QM X below args s S0 ad0 rvI Qa) S0 ad0 S 16 [(0, Value.ref (enc 12 0)), (1, Value.int x1), (2, Value.int x2), (3, Value.int x3)] [Value.int y0, Value.ref (enc 12 0)] := by
  refine V_callV (pc := 16) C (ct_X8_fails hT hl h) g1120 g1122 g32 g1123 g64 ⟨by decide, by decide, pl_X8_fails⟩ (enc_ne63 (by decide)) (ct_obj hT rfl (by decide)) rfl ⟨by decide, by decide⟩ (rest := []) rfl (le8 rfl) dX8_seat_16 (fun v2 S1 h => ?_) (fun k9 S9 hk h => VX_out C htab hk (h.2 (by omega)))
  replace h := h.1 rfl
  refine V_st (st' := [Value.int v2]) rfl ?_
  refine V_if_eq (pc := 19) (tgt := 24) C dX8_seat_19 (by decide) h (fun h => ?_) (fun h => ?_)
  · refine V_bipush (pc := 24) C (v := 48) dX8_seat_24 rfl ?_
    refine V_iload_n (pc := 26) C dX8_seat_26 rfl 1 rfl ?_
    refine V_imul (pc := 27) C dX8_seat_27 ?_
    refine V_aload_n (pc := 28) C dX8_seat_28 rfl 0 rfl ?_
    refine V_iload_n (pc := 29) C dX8_seat_29 rfl 1 rfl ?_
    refine V_iload_n (pc := 30) C dX8_seat_30 rfl 2 rfl ?_
    refine V_iload_n (pc := 31) C dX8_seat_31 rfl 3 rfl ?_
    refine V_callV (pc := 32) C (ct_X8_seatOf hT hl h) g1214 g1216 g45 g1217 g64 ⟨by decide, by decide, pl_X8_seatOf⟩ (enc_ne63 (by decide)) (ct_obj hT rfl (by decide)) rfl ⟨by decide, by decide⟩ (rest := [Value.int (48 * x1)]) rfl (le8 rfl) dX8_seat_32 (fun v5 S4 h => ?_) (fun k9 S9 hk h => VX_out C htab hk (h.2 (by omega)))
    replace h := h.1 rfl
    refine V_st (st' := [Value.int v5, Value.int (48 * x1)]) rfl ?_
    refine V_iadd (pc := 35) C dX8_seat_35 ?_
    refine V_nI fun v7 e9 => ?_
    replace h := h v7 e9; clear e9
    refine V_istore (pc := 36) C dX8_seat_36 (by decide) rfl ?_
    refine V_aload_n (pc := 38) C dX8_seat_38 rfl 1 rfl ?_
    refine V_getF (pc := 39) C hT f1_X8_26 g1004 dX8_seat_39 ?_
    refine V_iload (pc := 42) C dX8_seat_42 0 rfl ?_
    refine V_mld (pc := 44) C hT tb1_arr (n := 1440) (c9 := 126) rfl rfl rfl h dX8_seat_44 (fun h => ?_)
    refine V_iconst (pc := 45) C (v := (-1)) dX8_seat_45 rfl ?_
    refine V_icmp_eq (pc := 46) (tgt := 59) C dX8_seat_46 (by decide) h (fun h => ?_) (fun h => ?_)
    · refine V_aload_n (pc := 59) C dX8_seat_59 rfl 1 rfl ?_
      refine V_getF (pc := 60) C hT f1_X8_27 g1005 dX8_seat_60 ?_
      refine V_iload (pc := 63) C dX8_seat_63 0 rfl ?_
      refine V_mld (pc := 65) C hT tb1_arr (n := 1440) (c9 := 127) rfl rfl rfl h dX8_seat_65 (fun h => ?_)
      refine V_iconst (pc := 66) C (v := (-1)) dX8_seat_66 rfl ?_
      refine V_icmp_eq (pc := 67) (tgt := 84) C dX8_seat_67 (by decide) h (fun h => ?_) (fun h => ?_)
      · refine V_iconst (pc := 84) C (v := (-1)) dX8_seat_84 rfl ?_
        exact V_iret (pc := 85) C hr rfl h dX8_seat_85
      · refine V_sipush (pc := 70) C (v := 1000) dX8_seat_70 rfl ?_
        refine V_aload_n (pc := 73) C dX8_seat_73 rfl 1 rfl ?_
        refine V_getF (pc := 74) C hT f1_X8_27 g1005 dX8_seat_74 ?_
        refine V_iload (pc := 77) C dX8_seat_77 0 rfl ?_
        refine V_mld (pc := 79) C hT tb1_arr (n := 1440) (c9 := 127) rfl rfl rfl h dX8_seat_79 (fun h => ?_)
        refine V_iadd (pc := 80) C dX8_seat_80 ?_
        refine V_goto (pc := 81) (tgt := 85) C dX8_seat_81 (by decide) ?_
        exact V_iret (pc := 85) C hr rfl h dX8_seat_85
    · refine V_aload_n (pc := 49) C dX8_seat_49 rfl 1 rfl ?_
      refine V_getF (pc := 50) C hT f1_X8_26 g1004 dX8_seat_50 ?_
      refine V_iload (pc := 53) C dX8_seat_53 0 rfl ?_
      refine V_mld (pc := 55) C hT tb1_arr (n := 1440) (c9 := 126) rfl rfl rfl h dX8_seat_55 (fun h => ?_)
      refine V_goto (pc := 56) (tgt := 85) C dX8_seat_56 (by decide) ?_
      exact V_iret (pc := 85) C hr rfl h dX8_seat_85
  · refine V_iconst (pc := 22) C (v := 0) dX8_seat_22 rfl ?_
    exact V_iret (pc := 23) C hr rfl h dX8_seat_23
def w_X8_seat (a1 : Int32) (a2 : Int32) (a3 : Int32) (S : Sg) (Q : Nat → Int32 → Sg → Prop) : Prop := (w_X8_isSeat a1 a2 a3 S (fun k10 v9 S8 => (k10 = 0 → ((v9 = 0 → w_X8_seat_16  Q a1 a2 a3 1 S8) ∧ (¬ v9 = 0 → w_X8_seat_16  Q a1 a2 a3 0 S8))) ∧ (¬ k10 = 0 → Q k10 0 S8)))
theorem ct_X8_seat (hT : xT X = tb1) (hl : l.stackTraces = false) {a1 : Int32} {a2 : Int32} {a3 : Int32} {S : Sg} (h : w_X8_seat a1 a2 a3 S Qa) : CT X k0 l yX8_seat cX8_seat 5 (some .int) 4 66 [Value.ref (enc 12 0), Value.int a1, Value.int a2, Value.int a3] rvI S Qa :=
  CT_ofV (own := RX8) (by decide +kernel) (le8 rfl) rfl hl fun p e R s m args below meth c ad0 C hr hnm htab => by
    refine V_aload_n (pc := 0) C dX8_seat_0 rfl 0 rfl ?_
    refine V_aload_n (pc := 1) C dX8_seat_1 rfl 0 rfl ?_
    refine V_iload_n (pc := 2) C dX8_seat_2 rfl 1 rfl ?_
    refine V_iload_n (pc := 3) C dX8_seat_3 rfl 2 rfl ?_
    refine V_iload_n (pc := 4) C dX8_seat_4 rfl 3 rfl ?_
    refine V_callV (pc := 5) C (ct_X8_isSeat hT hl h) g1210 g1212 g44 g1213 g64 ⟨by decide, by decide, pl_X8_isSeat⟩ (enc_ne63 (by decide)) (ct_obj hT rfl (by decide)) rfl ⟨by decide, by decide⟩ (rest := [Value.ref (enc 12 0)]) rfl (le8 rfl) dX8_seat_5 (fun v9 S8 h => ?_) (fun k9 S9 hk h => VX_out C htab hk (h.2 (by omega)))
    replace h := h.1 rfl
    refine V_st (st' := [Value.int v9, Value.ref (enc 12 0)]) rfl ?_
    refine V_if_eq (pc := 8) (tgt := 15) C dX8_seat_8 (by decide) h (fun h => ?_) (fun h => ?_)
    · refine V_iconst (pc := 15) C (v := 1) dX8_seat_15 rfl ?_
      refine V_sub [0, 1, 2, 3] rfl ?_
      exact k_X8_seat_16 hT hl C hr hnm htab  h
    · refine V_iconst (pc := 11) C (v := 0) dX8_seat_11 rfl ?_
      refine V_goto (pc := 12) (tgt := 16) C dX8_seat_12 (by decide) ?_
      refine V_sub [0, 1, 2, 3] rfl ?_
      exact k_X8_seat_16 hT hl C hr hnm htab  h
theorem pl_X8_sold : (parseMethodDescriptor yX8_sold.desc).map (fun d => d.parameters.length) = some 1 := by decide +kernel
def w_X8_sold_34 (k7 : Int32 → Int32 → Int32 → Sg → Prop) (Q : Nat → Int32 → Sg → Prop) (x1 : Int32) (x3 : Int32) (y0 : Int32) (y1 : Int32) (S : Sg) : Prop := (∀ v1, v1 = y1 + y0 → k7 x1 v1 (x3 + 1) S)
theorem k_X8_sold_34 (hT : xT X = tb1) (hl : l.stackTraces = false) (C : Cn X k0 p l R s m meth c cX8_sold RX8 4 1 0) (hr : meth.sig.returnType = (some .int)) (hnm : meth.name = yX8_sold.name) (htab : ∀ x ∈ c.exceptionTable.toList, False) {k7 : Int32 → Int32 → Int32 → Sg → Prop} (hk7 : ∀ {x1 : Int32} {x2 : Int32} {x3 : Int32} {S : Sg}, k7 x1 x2 x3 S → V X p l e R s m args below meth c 4 (QM X below args s S0 ad0 rvI Qa) S0 ad0 S 7 [(0, Value.ref (enc 12 0)), (1, Value.int x1), (2, Value.int x2), (3, Value.int x3)] []) {x1 : Int32} {x3 : Int32} {y0 : Int32} {y1 : Int32} {S : Sg} (h : w_X8_sold_34 k7 Qa x1 x3 y0 y1 S) : V X p l e R s m args below meth c 4 (QM X below args s S0 ad0 rvI Qa) S0 ad0 S 34 [(0, Value.ref (enc 12 0)), (1, Value.int x1), (3, Value.int x3)] [Value.int y0, Value.int y1] := by
  refine V_iadd (pc := 34) C dX8_sold_34 ?_
  refine V_nI fun v1 e9 => ?_
  replace h := h v1 e9; clear e9
  refine V_istore_n (pc := 35) C dX8_sold_35 rfl (by decide) rfl ?_
  refine V_iinc (pc := 36) C (a := 3) (v := x3 + 1) dX8_sold_36 rfl rfl (by decide) rfl ?_
  refine V_goto (pc := 39) (tgt := 7) C dX8_sold_39 (by decide) ?_
  refine V_sub [2, 3, 1, 0] rfl ?_
  exact hk7 h
def w_X8_sold_7  (Q : Nat → Int32 → Sg → Prop) : Nat → Int32 → Int32 → Int32 → Sg → Prop
  | 0, _, _, _, _ => False
  | n + 1, x1, x2, x3, S => ((((48 * x1) + 48) ≤ x3 → Q 0 x2 S) ∧ (¬ ((48 * x1) + 48) ≤ x3 → (vp_in x3 1440 ∧ (((S.1 126 (nt x3)) = (-1) → w_X8_sold_34 (fun x1 x2 x3 S => w_X8_sold_7  Q n x1 x2 x3 S) Q x1 x3 0 x2 S) ∧ (¬ (S.1 126 (nt x3)) = (-1) → w_X8_sold_34 (fun x1 x2 x3 S => w_X8_sold_7  Q n x1 x2 x3 S) Q x1 x3 1 x2 S)))))
theorem k_X8_sold_7 (hT : xT X = tb1) (hl : l.stackTraces = false) (C : Cn X k0 p l R s m meth c cX8_sold RX8 4 1 0) (hr : meth.sig.returnType = (some .int)) (hnm : meth.name = yX8_sold.name) (htab : ∀ x ∈ c.exceptionTable.toList, False)  : ∀ n {x1 : Int32} {x2 : Int32} {x3 : Int32} {S : Sg}, w_X8_sold_7  Qa n x1 x2 x3 S → V X p l e R s m args below meth c 4 (QM X below args s S0 ad0 rvI Qa) S0 ad0 S 7 [(0, Value.ref (enc 12 0)), (1, Value.int x1), (2, Value.int x2), (3, Value.int x3)] [] := by
  intro n
  induction n with
  | zero => intro x1 x2 x3 S h; exact h.elim
  | succ n ih =>
    intro x1 x2 x3 S h
    refine V_iload_n (pc := 7) C dX8_sold_7 rfl 3 rfl ?_
    refine V_bipush (pc := 8) C (v := 48) dX8_sold_8 rfl ?_
    refine V_iload_n (pc := 10) C dX8_sold_10 rfl 1 rfl ?_
    refine V_imul (pc := 11) C dX8_sold_11 ?_
    refine V_bipush (pc := 12) C (v := 48) dX8_sold_12 rfl ?_
    refine V_iadd (pc := 14) C dX8_sold_14 ?_
    refine V_icmp_ge (pc := 15) (tgt := 42) C dX8_sold_15 (by decide) h (fun h => ?_) (fun h => ?_)
    · refine V_iload_n (pc := 42) C dX8_sold_42 rfl 2 rfl ?_
      exact V_iret (pc := 43) C hr rfl h dX8_sold_43
    · refine V_iload_n (pc := 18) C dX8_sold_18 rfl 2 rfl ?_
      refine V_aload_n (pc := 19) C dX8_sold_19 rfl 0 rfl ?_
      refine V_getF (pc := 20) C hT f1_X8_26 g1004 dX8_sold_20 ?_
      refine V_iload_n (pc := 23) C dX8_sold_23 rfl 3 rfl ?_
      refine V_mld (pc := 24) C hT tb1_arr (n := 1440) (c9 := 126) rfl rfl rfl h dX8_sold_24 (fun h => ?_)
      refine V_iconst (pc := 25) C (v := (-1)) dX8_sold_25 rfl ?_
      refine V_icmp_ne (pc := 26) (tgt := 33) C dX8_sold_26 (by decide) h (fun h => ?_) (fun h => ?_)
      · refine V_iconst (pc := 33) C (v := 1) dX8_sold_33 rfl ?_
        refine V_sub [0, 1, 3] rfl ?_
        exact k_X8_sold_34 hT hl C hr hnm htab (fun h => ih h) h
      · refine V_iconst (pc := 29) C (v := 0) dX8_sold_29 rfl ?_
        refine V_goto (pc := 30) (tgt := 34) C dX8_sold_30 (by decide) ?_
        refine V_sub [0, 1, 3] rfl ?_
        exact k_X8_sold_34 hT hl C hr hnm htab (fun h => ih h) h
def w_X8_sold (a1 : Int32) (S : Sg) (Q : Nat → Int32 → Sg → Prop) : Prop := (∀ v2, v2 = 48 * a1 → ∃ n9, w_X8_sold_7  Q n9 a1 0 v2 S)
theorem ct_X8_sold (hT : xT X = tb1) (hl : l.stackTraces = false) {a1 : Int32} {S : Sg} (h : w_X8_sold a1 S Qa) : CT X k0 l yX8_sold cX8_sold 4 (some .int) 1 0 [Value.ref (enc 12 0), Value.int a1] rvI S Qa :=
  CT_ofV (own := RX8) (by decide +kernel) (le8 rfl) rfl hl fun p e R s m args below meth c ad0 C hr hnm htab => by
    refine V_iconst (pc := 0) C (v := 0) dX8_sold_0 rfl ?_
    refine V_istore_n (pc := 1) C dX8_sold_1 rfl (by decide) rfl ?_
    refine V_bipush (pc := 2) C (v := 48) dX8_sold_2 rfl ?_
    refine V_iload_n (pc := 4) C dX8_sold_4 rfl 2 rfl ?_
    refine V_imul (pc := 5) C dX8_sold_5 ?_
    refine V_nI fun v2 e9 => ?_
    replace h := h v2 e9; clear e9
    refine V_istore_n (pc := 6) C dX8_sold_6 rfl (by decide) rfl ?_
    refine V_sub [2, 3, 1, 0] rfl ?_
    obtain ⟨n9, h⟩ := h
    exact k_X8_sold_7 hT hl C hr hnm htab  n9 h
theorem pl_X8_held : (parseMethodDescriptor yX8_held.desc).map (fun d => d.parameters.length) = some 1 := by decide +kernel
def w_X8_held_34 (k7 : Int32 → Int32 → Int32 → Sg → Prop) (Q : Nat → Int32 → Sg → Prop) (x1 : Int32) (x3 : Int32) (y0 : Int32) (y1 : Int32) (S : Sg) : Prop := (∀ v1, v1 = y1 + y0 → k7 x1 v1 (x3 + 1) S)
theorem k_X8_held_34 (hT : xT X = tb1) (hl : l.stackTraces = false) (C : Cn X k0 p l R s m meth c cX8_held RX8 4 1 0) (hr : meth.sig.returnType = (some .int)) (hnm : meth.name = yX8_held.name) (htab : ∀ x ∈ c.exceptionTable.toList, False) {k7 : Int32 → Int32 → Int32 → Sg → Prop} (hk7 : ∀ {x1 : Int32} {x2 : Int32} {x3 : Int32} {S : Sg}, k7 x1 x2 x3 S → V X p l e R s m args below meth c 4 (QM X below args s S0 ad0 rvI Qa) S0 ad0 S 7 [(0, Value.ref (enc 12 0)), (1, Value.int x1), (2, Value.int x2), (3, Value.int x3)] []) {x1 : Int32} {x3 : Int32} {y0 : Int32} {y1 : Int32} {S : Sg} (h : w_X8_held_34 k7 Qa x1 x3 y0 y1 S) : V X p l e R s m args below meth c 4 (QM X below args s S0 ad0 rvI Qa) S0 ad0 S 34 [(0, Value.ref (enc 12 0)), (1, Value.int x1), (3, Value.int x3)] [Value.int y0, Value.int y1] := by
  refine V_iadd (pc := 34) C dX8_held_34 ?_
  refine V_nI fun v1 e9 => ?_
  replace h := h v1 e9; clear e9
  refine V_istore_n (pc := 35) C dX8_held_35 rfl (by decide) rfl ?_
  refine V_iinc (pc := 36) C (a := 3) (v := x3 + 1) dX8_held_36 rfl rfl (by decide) rfl ?_
  refine V_goto (pc := 39) (tgt := 7) C dX8_held_39 (by decide) ?_
  refine V_sub [2, 3, 1, 0] rfl ?_
  exact hk7 h
def w_X8_held_7  (Q : Nat → Int32 → Sg → Prop) : Nat → Int32 → Int32 → Int32 → Sg → Prop
  | 0, _, _, _, _ => False
  | n + 1, x1, x2, x3, S => ((((48 * x1) + 48) ≤ x3 → Q 0 x2 S) ∧ (¬ ((48 * x1) + 48) ≤ x3 → (vp_in x3 1440 ∧ (((S.1 127 (nt x3)) = (-1) → w_X8_held_34 (fun x1 x2 x3 S => w_X8_held_7  Q n x1 x2 x3 S) Q x1 x3 0 x2 S) ∧ (¬ (S.1 127 (nt x3)) = (-1) → w_X8_held_34 (fun x1 x2 x3 S => w_X8_held_7  Q n x1 x2 x3 S) Q x1 x3 1 x2 S)))))
theorem k_X8_held_7 (hT : xT X = tb1) (hl : l.stackTraces = false) (C : Cn X k0 p l R s m meth c cX8_held RX8 4 1 0) (hr : meth.sig.returnType = (some .int)) (hnm : meth.name = yX8_held.name) (htab : ∀ x ∈ c.exceptionTable.toList, False)  : ∀ n {x1 : Int32} {x2 : Int32} {x3 : Int32} {S : Sg}, w_X8_held_7  Qa n x1 x2 x3 S → V X p l e R s m args below meth c 4 (QM X below args s S0 ad0 rvI Qa) S0 ad0 S 7 [(0, Value.ref (enc 12 0)), (1, Value.int x1), (2, Value.int x2), (3, Value.int x3)] [] := by
  intro n
  induction n with
  | zero => intro x1 x2 x3 S h; exact h.elim
  | succ n ih =>
    intro x1 x2 x3 S h
    refine V_iload_n (pc := 7) C dX8_held_7 rfl 3 rfl ?_
    refine V_bipush (pc := 8) C (v := 48) dX8_held_8 rfl ?_
    refine V_iload_n (pc := 10) C dX8_held_10 rfl 1 rfl ?_
    refine V_imul (pc := 11) C dX8_held_11 ?_
    refine V_bipush (pc := 12) C (v := 48) dX8_held_12 rfl ?_
    refine V_iadd (pc := 14) C dX8_held_14 ?_
    refine V_icmp_ge (pc := 15) (tgt := 42) C dX8_held_15 (by decide) h (fun h => ?_) (fun h => ?_)
    · refine V_iload_n (pc := 42) C dX8_held_42 rfl 2 rfl ?_
      exact V_iret (pc := 43) C hr rfl h dX8_held_43
    · refine V_iload_n (pc := 18) C dX8_held_18 rfl 2 rfl ?_
      refine V_aload_n (pc := 19) C dX8_held_19 rfl 0 rfl ?_
      refine V_getF (pc := 20) C hT f1_X8_27 g1005 dX8_held_20 ?_
      refine V_iload_n (pc := 23) C dX8_held_23 rfl 3 rfl ?_
      refine V_mld (pc := 24) C hT tb1_arr (n := 1440) (c9 := 127) rfl rfl rfl h dX8_held_24 (fun h => ?_)
      refine V_iconst (pc := 25) C (v := (-1)) dX8_held_25 rfl ?_
      refine V_icmp_ne (pc := 26) (tgt := 33) C dX8_held_26 (by decide) h (fun h => ?_) (fun h => ?_)
      · refine V_iconst (pc := 33) C (v := 1) dX8_held_33 rfl ?_
        refine V_sub [0, 1, 3] rfl ?_
        exact k_X8_held_34 hT hl C hr hnm htab (fun h => ih h) h
      · refine V_iconst (pc := 29) C (v := 0) dX8_held_29 rfl ?_
        refine V_goto (pc := 30) (tgt := 34) C dX8_held_30 (by decide) ?_
        refine V_sub [0, 1, 3] rfl ?_
        exact k_X8_held_34 hT hl C hr hnm htab (fun h => ih h) h
def w_X8_held (a1 : Int32) (S : Sg) (Q : Nat → Int32 → Sg → Prop) : Prop := (∀ v2, v2 = 48 * a1 → ∃ n9, w_X8_held_7  Q n9 a1 0 v2 S)
theorem ct_X8_held (hT : xT X = tb1) (hl : l.stackTraces = false) {a1 : Int32} {S : Sg} (h : w_X8_held a1 S Qa) : CT X k0 l yX8_held cX8_held 4 (some .int) 1 0 [Value.ref (enc 12 0), Value.int a1] rvI S Qa :=
  CT_ofV (own := RX8) (by decide +kernel) (le8 rfl) rfl hl fun p e R s m args below meth c ad0 C hr hnm htab => by
    refine V_iconst (pc := 0) C (v := 0) dX8_held_0 rfl ?_
    refine V_istore_n (pc := 1) C dX8_held_1 rfl (by decide) rfl ?_
    refine V_bipush (pc := 2) C (v := 48) dX8_held_2 rfl ?_
    refine V_iload_n (pc := 4) C dX8_held_4 rfl 2 rfl ?_
    refine V_imul (pc := 5) C dX8_held_5 ?_
    refine V_nI fun v2 e9 => ?_
    replace h := h v2 e9; clear e9
    refine V_istore_n (pc := 6) C dX8_held_6 rfl (by decide) rfl ?_
    refine V_sub [2, 3, 1, 0] rfl ?_
    obtain ⟨n9, h⟩ := h
    exact k_X8_held_7 hT hl C hr hnm htab  n9 h
theorem pl_X8_paidFor : (parseMethodDescriptor yX8_paidFor.desc).map (fun d => d.parameters.length) = some 1 := by decide +kernel
def w_X8_paidFor_33 (k4 : Int32 → Int32 → Int32 → Sg → Prop) (Q : Nat → Int32 → Sg → Prop) (x1 : Int32) (x3 : Int32) (y0 : Int32) (y1 : Int32) (S : Sg) : Prop := (∀ v1, v1 = y1 + y0 → k4 x1 v1 (x3 + 1) S)
theorem k_X8_paidFor_33 (hT : xT X = tb1) (hl : l.stackTraces = false) (C : Cn X k0 p l R s m meth c cX8_paidFor RX8 4 1 0) (hr : meth.sig.returnType = (some .int)) (hnm : meth.name = yX8_paidFor.name) (htab : ∀ x ∈ c.exceptionTable.toList, False) {k4 : Int32 → Int32 → Int32 → Sg → Prop} (hk4 : ∀ {x1 : Int32} {x2 : Int32} {x3 : Int32} {S : Sg}, k4 x1 x2 x3 S → V X p l e R s m args below meth c 4 (QM X below args s S0 ad0 rvI Qa) S0 ad0 S 4 [(0, Value.ref (enc 12 0)), (1, Value.int x1), (2, Value.int x2), (3, Value.int x3)] []) {x1 : Int32} {x3 : Int32} {y0 : Int32} {y1 : Int32} {S : Sg} (h : w_X8_paidFor_33 k4 Qa x1 x3 y0 y1 S) : V X p l e R s m args below meth c 4 (QM X below args s S0 ad0 rvI Qa) S0 ad0 S 33 [(0, Value.ref (enc 12 0)), (1, Value.int x1), (3, Value.int x3)] [Value.int y0, Value.int y1] := by
  refine V_iadd (pc := 33) C dX8_paidFor_33 ?_
  refine V_nI fun v1 e9 => ?_
  replace h := h v1 e9; clear e9
  refine V_istore_n (pc := 34) C dX8_paidFor_34 rfl (by decide) rfl ?_
  refine V_iinc (pc := 35) C (a := 3) (v := x3 + 1) dX8_paidFor_35 rfl rfl (by decide) rfl ?_
  refine V_goto (pc := 38) (tgt := 4) C dX8_paidFor_38 (by decide) ?_
  refine V_sub [2, 3, 1, 0] rfl ?_
  exact hk4 h
def w_X8_paidFor_4  (Q : Nat → Int32 → Sg → Prop) : Nat → Int32 → Int32 → Int32 → Sg → Prop
  | 0, _, _, _, _ => False
  | n + 1, x1, x2, x3, S => (((S.1 336 0) ≤ x3 → Q 0 x2 S) ∧ (¬ (S.1 336 0) ≤ x3 → (vp_in x3 400 ∧ (((S.1 137 (nt x3)) = x1 → (vp_in x3 400 ∧ w_X8_paidFor_33 (fun x1 x2 x3 S => w_X8_paidFor_4  Q n x1 x2 x3 S) Q x1 x3 (S.1 140 (nt x3)) x2 S)) ∧ (¬ (S.1 137 (nt x3)) = x1 → w_X8_paidFor_33 (fun x1 x2 x3 S => w_X8_paidFor_4  Q n x1 x2 x3 S) Q x1 x3 0 x2 S)))))
theorem k_X8_paidFor_4 (hT : xT X = tb1) (hl : l.stackTraces = false) (C : Cn X k0 p l R s m meth c cX8_paidFor RX8 4 1 0) (hr : meth.sig.returnType = (some .int)) (hnm : meth.name = yX8_paidFor.name) (htab : ∀ x ∈ c.exceptionTable.toList, False)  : ∀ n {x1 : Int32} {x2 : Int32} {x3 : Int32} {S : Sg}, w_X8_paidFor_4  Qa n x1 x2 x3 S → V X p l e R s m args below meth c 4 (QM X below args s S0 ad0 rvI Qa) S0 ad0 S 4 [(0, Value.ref (enc 12 0)), (1, Value.int x1), (2, Value.int x2), (3, Value.int x3)] [] := by
  intro n
  induction n with
  | zero => intro x1 x2 x3 S h; exact h.elim
  | succ n ih =>
    intro x1 x2 x3 S h
    refine V_iload_n (pc := 4) C dX8_paidFor_4 rfl 3 rfl ?_
    refine V_aload_n (pc := 5) C dX8_paidFor_5 rfl 0 rfl ?_
    refine V_getI (pc := 6) C hT f1_X8_36 g1014 dX8_paidFor_6 ?_
    refine V_icmp_ge (pc := 9) (tgt := 41) C dX8_paidFor_9 (by decide) h (fun h => ?_) (fun h => ?_)
    · refine V_iload_n (pc := 41) C dX8_paidFor_41 rfl 2 rfl ?_
      exact V_iret (pc := 42) C hr rfl h dX8_paidFor_42
    · refine V_iload_n (pc := 12) C dX8_paidFor_12 rfl 2 rfl ?_
      refine V_aload_n (pc := 13) C dX8_paidFor_13 rfl 0 rfl ?_
      refine V_getF (pc := 14) C hT f1_X8_37 g1015 dX8_paidFor_14 ?_
      refine V_iload_n (pc := 17) C dX8_paidFor_17 rfl 3 rfl ?_
      refine V_mld (pc := 18) C hT tb1_arr (n := 400) (c9 := 137) rfl rfl rfl h dX8_paidFor_18 (fun h => ?_)
      refine V_iload_n (pc := 19) C dX8_paidFor_19 rfl 1 rfl ?_
      refine V_icmp_ne (pc := 20) (tgt := 32) C dX8_paidFor_20 (by decide) h (fun h => ?_) (fun h => ?_)
      · refine V_iconst (pc := 32) C (v := 0) dX8_paidFor_32 rfl ?_
        refine V_sub [0, 1, 3] rfl ?_
        exact k_X8_paidFor_33 hT hl C hr hnm htab (fun h => ih h) h
      · refine V_aload_n (pc := 23) C dX8_paidFor_23 rfl 0 rfl ?_
        refine V_getF (pc := 24) C hT f1_X8_40 g1018 dX8_paidFor_24 ?_
        refine V_iload_n (pc := 27) C dX8_paidFor_27 rfl 3 rfl ?_
        refine V_mld (pc := 28) C hT tb1_arr (n := 400) (c9 := 140) rfl rfl rfl h dX8_paidFor_28 (fun h => ?_)
        refine V_goto (pc := 29) (tgt := 33) C dX8_paidFor_29 (by decide) ?_
        refine V_sub [0, 1, 3] rfl ?_
        exact k_X8_paidFor_33 hT hl C hr hnm htab (fun h => ih h) h
def w_X8_paidFor (a1 : Int32) (S : Sg) (Q : Nat → Int32 → Sg → Prop) : Prop := ∃ n9, w_X8_paidFor_4  Q n9 a1 0 0 S
theorem ct_X8_paidFor (hT : xT X = tb1) (hl : l.stackTraces = false) {a1 : Int32} {S : Sg} (h : w_X8_paidFor a1 S Qa) : CT X k0 l yX8_paidFor cX8_paidFor 4 (some .int) 1 0 [Value.ref (enc 12 0), Value.int a1] rvI S Qa :=
  CT_ofV (own := RX8) (by decide +kernel) (le8 rfl) rfl hl fun p e R s m args below meth c ad0 C hr hnm htab => by
    refine V_iconst (pc := 0) C (v := 0) dX8_paidFor_0 rfl ?_
    refine V_istore_n (pc := 1) C dX8_paidFor_1 rfl (by decide) rfl ?_
    refine V_iconst (pc := 2) C (v := 0) dX8_paidFor_2 rfl ?_
    refine V_istore_n (pc := 3) C dX8_paidFor_3 rfl (by decide) rfl ?_
    refine V_sub [2, 3, 1, 0] rfl ?_
    obtain ⟨n9, h⟩ := h
    exact k_X8_paidFor_4 hT hl C hr hnm htab  n9 h
theorem pl_X8_ofShow : (parseMethodDescriptor yX8_ofShow.desc).map (fun d => d.parameters.length) = some 2 := by decide +kernel
def w_X8_ofShow_24  (Q : Nat → Int32 → Sg → Prop) (x1 : Int32) (x2 : Int32) (y0 : Int32) (S : Sg) : Prop := (w_X8_fails y0 S (fun k3 v2 S1 => (k3 = 0 → ((v2 = 0 → ((x2 = 0 → (vp_in x1 30 ∧ Q 0 (S1.1 122 (nt x1)) S1)) ∧ (¬ x2 = 0 → ((x2 = 1 → (vp_in x1 30 ∧ Q 0 (S1.1 123 (nt x1)) S1)) ∧ (¬ x2 = 1 → ((x2 = 2 → (vp_in x1 30 ∧ Q 0 (S1.1 124 (nt x1)) S1)) ∧ (¬ x2 = 2 → ((x2 = 3 → (vp_in x1 30 ∧ Q 0 (S1.1 125 (nt x1)) S1)) ∧ (¬ x2 = 3 → ((x2 = 4 → (w_X8_sold x1 S1 (fun k6 v5 S4 => (k6 = 0 → Q 0 v5 S4) ∧ (¬ k6 = 0 → Q k6 0 S4)))) ∧ (¬ x2 = 4 → ((x2 = 5 → (w_X8_held x1 S1 (fun k9 v8 S7 => (k9 = 0 → Q 0 v8 S7) ∧ (¬ k9 = 0 → Q k9 0 S7)))) ∧ (¬ x2 = 5 → ((x2 = 6 → (vp_in x1 30 ∧ Q 0 (S1.1 128 (nt x1)) S1)) ∧ (¬ x2 = 6 → (w_X8_paidFor x1 S1 (fun k12 v11 S10 => (k12 = 0 → Q 0 v11 S10) ∧ (¬ k12 = 0 → Q k12 0 S10)))))))))))))))))) ∧ (¬ v2 = 0 → Q 0 0 S1))) ∧ (¬ k3 = 0 → Q k3 0 S1)))
theorem k_X8_ofShow_24 (hT : xT X = tb1) (hl : l.stackTraces = false) (C : Cn X k0 p l R s m meth c cX8_ofShow RX8 3 3 43) (hr : meth.sig.returnType = (some .int)) (hnm : meth.name = yX8_ofShow.name) (htab : ∀ x ∈ c.exceptionTable.toList, False)  {x1 : Int32} {x2 : Int32} {y0 : Int32} {S : Sg} (h : w_X8_ofShow_24  Qa x1 x2 y0 S) : V X p l e R s m args below meth c 3 (QM X below args s S0 ad0 rvI Qa) S0 ad0 S 24 [(0, Value.ref (enc 12 0)), (1, Value.int x1), (2, Value.int x2)] [Value.int y0, Value.ref (enc 12 0)] := by
  refine V_callV (pc := 24) C (ct_X8_fails hT hl h) g1120 g1122 g32 g1123 g64 ⟨by decide, by decide, pl_X8_fails⟩ (enc_ne63 (by decide)) (ct_obj hT rfl (by decide)) rfl ⟨by decide, by decide⟩ (rest := []) rfl (le8 rfl) dX8_ofShow_24 (fun v2 S1 h => ?_) (fun k9 S9 hk h => VX_out C htab hk (h.2 (by omega)))
  replace h := h.1 rfl
  refine V_st (st' := [Value.int v2]) rfl ?_
  refine V_if_eq (pc := 27) (tgt := 32) C dX8_ofShow_27 (by decide) h (fun h => ?_) (fun h => ?_)
  · refine V_iload_n (pc := 32) C dX8_ofShow_32 rfl 2 rfl ?_
    refine V_case h (fun e9 h2 => ?_) (fun e100 h2 => ?_)
    · clear h
      subst e9
      replace h := h2; clear h2
      refine V_tableIn (pc := 33) (tgt := 76) C dX8_ofShow_33 (by decide) (by decide) rfl (by decide) ?_
      refine V_aload_n (pc := 76) C dX8_ofShow_76 rfl 0 rfl ?_
      refine V_getF (pc := 77) C hT f1_X8_22 g1000 dX8_ofShow_77 ?_
      refine V_iload_n (pc := 80) C dX8_ofShow_80 rfl 1 rfl ?_
      refine V_mld (pc := 81) C hT tb1_arr (n := 30) (c9 := 122) rfl rfl rfl h dX8_ofShow_81 (fun h => ?_)
      exact V_iret (pc := 82) C hr rfl h dX8_ofShow_82
    replace h := h2; clear h2
    refine V_case h (fun e9 h2 => ?_) (fun e101 h2 => ?_)
    · clear h
      subst e9
      replace h := h2; clear h2
      refine V_tableIn (pc := 33) (tgt := 83) C dX8_ofShow_33 (by decide) (by decide) rfl (by decide) ?_
      refine V_aload_n (pc := 83) C dX8_ofShow_83 rfl 0 rfl ?_
      refine V_getF (pc := 84) C hT f1_X8_23 g1001 dX8_ofShow_84 ?_
      refine V_iload_n (pc := 87) C dX8_ofShow_87 rfl 1 rfl ?_
      refine V_mld (pc := 88) C hT tb1_arr (n := 30) (c9 := 123) rfl rfl rfl h dX8_ofShow_88 (fun h => ?_)
      exact V_iret (pc := 89) C hr rfl h dX8_ofShow_89
    replace h := h2; clear h2
    refine V_case h (fun e9 h2 => ?_) (fun e102 h2 => ?_)
    · clear h
      subst e9
      replace h := h2; clear h2
      refine V_tableIn (pc := 33) (tgt := 90) C dX8_ofShow_33 (by decide) (by decide) rfl (by decide) ?_
      refine V_aload_n (pc := 90) C dX8_ofShow_90 rfl 0 rfl ?_
      refine V_getF (pc := 91) C hT f1_X8_24 g1002 dX8_ofShow_91 ?_
      refine V_iload_n (pc := 94) C dX8_ofShow_94 rfl 1 rfl ?_
      refine V_mld (pc := 95) C hT tb1_arr (n := 30) (c9 := 124) rfl rfl rfl h dX8_ofShow_95 (fun h => ?_)
      exact V_iret (pc := 96) C hr rfl h dX8_ofShow_96
    replace h := h2; clear h2
    refine V_case h (fun e9 h2 => ?_) (fun e103 h2 => ?_)
    · clear h
      subst e9
      replace h := h2; clear h2
      refine V_tableIn (pc := 33) (tgt := 97) C dX8_ofShow_33 (by decide) (by decide) rfl (by decide) ?_
      refine V_aload_n (pc := 97) C dX8_ofShow_97 rfl 0 rfl ?_
      refine V_getF (pc := 98) C hT f1_X8_25 g1003 dX8_ofShow_98 ?_
      refine V_iload_n (pc := 101) C dX8_ofShow_101 rfl 1 rfl ?_
      refine V_mld (pc := 102) C hT tb1_arr (n := 30) (c9 := 125) rfl rfl rfl h dX8_ofShow_102 (fun h => ?_)
      exact V_iret (pc := 103) C hr rfl h dX8_ofShow_103
    replace h := h2; clear h2
    refine V_case h (fun e9 h2 => ?_) (fun e104 h2 => ?_)
    · clear h
      subst e9
      replace h := h2; clear h2
      refine V_tableIn (pc := 33) (tgt := 104) C dX8_ofShow_33 (by decide) (by decide) rfl (by decide) ?_
      refine V_aload_n (pc := 104) C dX8_ofShow_104 rfl 0 rfl ?_
      refine V_iload_n (pc := 105) C dX8_ofShow_105 rfl 1 rfl ?_
      refine V_callV (pc := 106) C (ct_X8_sold hT hl h) g1289 g1291 g52 g1292 g64 ⟨by decide, by decide, pl_X8_sold⟩ (enc_ne63 (by decide)) (ct_obj hT rfl (by decide)) rfl ⟨by decide, by decide⟩ (rest := []) rfl (le8 rfl) dX8_ofShow_106 (fun v5 S4 h => ?_) (fun k9 S9 hk h => VX_out C htab hk (h.2 (by omega)))
      replace h := h.1 rfl
      refine V_st (st' := [Value.int v5]) rfl ?_
      exact V_iret (pc := 109) C hr rfl h dX8_ofShow_109
    replace h := h2; clear h2
    refine V_case h (fun e9 h2 => ?_) (fun e105 h2 => ?_)
    · clear h
      subst e9
      replace h := h2; clear h2
      refine V_tableIn (pc := 33) (tgt := 110) C dX8_ofShow_33 (by decide) (by decide) rfl (by decide) ?_
      refine V_aload_n (pc := 110) C dX8_ofShow_110 rfl 0 rfl ?_
      refine V_iload_n (pc := 111) C dX8_ofShow_111 rfl 1 rfl ?_
      refine V_callV (pc := 112) C (ct_X8_held hT hl h) g1293 g1295 g53 g1296 g64 ⟨by decide, by decide, pl_X8_held⟩ (enc_ne63 (by decide)) (ct_obj hT rfl (by decide)) rfl ⟨by decide, by decide⟩ (rest := []) rfl (le8 rfl) dX8_ofShow_112 (fun v8 S7 h => ?_) (fun k9 S9 hk h => VX_out C htab hk (h.2 (by omega)))
      replace h := h.1 rfl
      refine V_st (st' := [Value.int v8]) rfl ?_
      exact V_iret (pc := 115) C hr rfl h dX8_ofShow_115
    replace h := h2; clear h2
    refine V_case h (fun e9 h2 => ?_) (fun e106 h2 => ?_)
    · clear h
      subst e9
      replace h := h2; clear h2
      refine V_tableIn (pc := 33) (tgt := 116) C dX8_ofShow_33 (by decide) (by decide) rfl (by decide) ?_
      refine V_aload_n (pc := 116) C dX8_ofShow_116 rfl 0 rfl ?_
      refine V_getF (pc := 117) C hT f1_X8_28 g1006 dX8_ofShow_117 ?_
      refine V_iload_n (pc := 120) C dX8_ofShow_120 rfl 1 rfl ?_
      refine V_mld (pc := 121) C hT tb1_arr (n := 30) (c9 := 128) rfl rfl rfl h dX8_ofShow_121 (fun h => ?_)
      exact V_iret (pc := 122) C hr rfl h dX8_ofShow_122
    replace h := h2; clear h2
    refine V_tableOut (pc := 33) (tgt := 123) C dX8_ofShow_33 (tbl_out (n := 6) (by decide) (fun k hk => ?_)) (by decide) ?_
    · have hk2 : k = 0 ∨ k = 1 ∨ k = 2 ∨ k = 3 ∨ k = 4 ∨ k = 5 ∨ k = 6 := by omega
      rcases hk2 with rfl | rfl | rfl | rfl | rfl | rfl | rfl <;> assumption
    refine V_aload_n (pc := 123) C dX8_ofShow_123 rfl 0 rfl ?_
    refine V_iload_n (pc := 124) C dX8_ofShow_124 rfl 1 rfl ?_
    refine V_callV (pc := 125) C (ct_X8_paidFor hT hl h) g1297 g1299 g54 g1300 g64 ⟨by decide, by decide, pl_X8_paidFor⟩ (enc_ne63 (by decide)) (ct_obj hT rfl (by decide)) rfl ⟨by decide, by decide⟩ (rest := []) rfl (le8 rfl) dX8_ofShow_125 (fun v11 S10 h => ?_) (fun k9 S9 hk h => VX_out C htab hk (h.2 (by omega)))
    replace h := h.1 rfl
    refine V_st (st' := [Value.int v11]) rfl ?_
    exact V_iret (pc := 128) C hr rfl h dX8_ofShow_128
  · refine V_iconst (pc := 30) C (v := 0) dX8_ofShow_30 rfl ?_
    exact V_iret (pc := 31) C hr rfl h dX8_ofShow_31
def w_X8_ofShow_23  (Q : Nat → Int32 → Sg → Prop) (x1 : Int32) (x2 : Int32) (S : Sg) : Prop := w_X8_ofShow_24  Q x1 x2 1 S
theorem k_X8_ofShow_23 (hT : xT X = tb1) (hl : l.stackTraces = false) (C : Cn X k0 p l R s m meth c cX8_ofShow RX8 3 3 43) (hr : meth.sig.returnType = (some .int)) (hnm : meth.name = yX8_ofShow.name) (htab : ∀ x ∈ c.exceptionTable.toList, False)  {x1 : Int32} {x2 : Int32} {S : Sg} (h : w_X8_ofShow_23  Qa x1 x2 S) : V X p l e R s m args below meth c 3 (QM X below args s S0 ad0 rvI Qa) S0 ad0 S 23 [(0, Value.ref (enc 12 0)), (1, Value.int x1), (2, Value.int x2)] [Value.ref (enc 12 0)] := by
  refine V_iconst (pc := 23) C (v := 1) dX8_ofShow_23 rfl ?_
  refine V_sub [0, 1, 2] rfl ?_
  exact k_X8_ofShow_24 hT hl C hr hnm htab  h
def w_X8_ofShow (a1 : Int32) (a2 : Int32) (S : Sg) (Q : Nat → Int32 → Sg → Prop) : Prop := (w_X8_isShow a1 S (fun k15 v14 S13 => (k15 = 0 → ((v14 = 0 → w_X8_ofShow_23  Q a1 a2 S13) ∧ (¬ v14 = 0 → (w_X8_isIn a2 0 7 S13 (fun k18 v17 S16 => (k18 = 0 → ((v17 = 0 → w_X8_ofShow_23  Q a1 a2 S16) ∧ (¬ v17 = 0 → w_X8_ofShow_24  Q a1 a2 0 S16))) ∧ (¬ k18 = 0 → Q k18 0 S16)))))) ∧ (¬ k15 = 0 → Q k15 0 S13)))
theorem ct_X8_ofShow (hT : xT X = tb1) (hl : l.stackTraces = false) {a1 : Int32} {a2 : Int32} {S : Sg} (h : w_X8_ofShow a1 a2 S Qa) : CT X k0 l yX8_ofShow cX8_ofShow 3 (some .int) 3 43 [Value.ref (enc 12 0), Value.int a1, Value.int a2] rvI S Qa :=
  CT_ofV (own := RX8) (by decide +kernel) (le8 rfl) rfl hl fun p e R s m args below meth c ad0 C hr hnm htab => by
    refine V_aload_n (pc := 0) C dX8_ofShow_0 rfl 0 rfl ?_
    refine V_aload_n (pc := 1) C dX8_ofShow_1 rfl 0 rfl ?_
    refine V_iload_n (pc := 2) C dX8_ofShow_2 rfl 1 rfl ?_
    refine V_callV (pc := 3) C (ct_X8_isShow hT hl h) g1174 g1176 g38 g1177 g64 ⟨by decide, by decide, pl_X8_isShow⟩ (enc_ne63 (by decide)) (ct_obj hT rfl (by decide)) rfl ⟨by decide, by decide⟩ (rest := [Value.ref (enc 12 0)]) rfl (le8 rfl) dX8_ofShow_3 (fun v14 S13 h => ?_) (fun k9 S9 hk h => VX_out C htab hk (h.2 (by omega)))
    replace h := h.1 rfl
    refine V_st (st' := [Value.int v14, Value.ref (enc 12 0)]) rfl ?_
    refine V_if_eq (pc := 6) (tgt := 23) C dX8_ofShow_6 (by decide) h (fun h => ?_) (fun h => ?_)
    · refine V_sub [0, 1, 2] rfl ?_
      exact k_X8_ofShow_23 hT hl C hr hnm htab  h
    · refine V_iload_n (pc := 9) C dX8_ofShow_9 rfl 2 rfl ?_
      refine V_iconst (pc := 10) C (v := 0) dX8_ofShow_10 rfl ?_
      refine V_bipush (pc := 11) C (v := 7) dX8_ofShow_11 rfl ?_
      refine V_callS (pc := 13) C (ct_X8_isIn hT hl h) g1117 g1118 g1119 g64 ⟨by decide, by decide, pl_X8_isIn⟩ ⟨by decide, by decide⟩ (rest := [Value.ref (enc 12 0)]) rfl (le8 rfl) dX8_ofShow_13 (fun v17 S16 h => ?_) (fun k9 S9 hk h => VX_out C htab hk (h.2 (by omega)))
      replace h := h.1 rfl
      refine V_st (st' := [Value.int v17, Value.ref (enc 12 0)]) rfl ?_
      refine V_if_eq (pc := 16) (tgt := 23) C dX8_ofShow_16 (by decide) h (fun h => ?_) (fun h => ?_)
      · refine V_sub [0, 1, 2] rfl ?_
        exact k_X8_ofShow_23 hT hl C hr hnm htab  h
      · refine V_iconst (pc := 19) C (v := 0) dX8_ofShow_19 rfl ?_
        refine V_goto (pc := 20) (tgt := 24) C dX8_ofShow_20 (by decide) ?_
        refine V_sub [0, 1, 2] rfl ?_
        exact k_X8_ofShow_24 hT hl C hr hnm htab  h
theorem pl_X8_ofTicket : (parseMethodDescriptor yX8_ofTicket.desc).map (fun d => d.parameters.length) = some 2 := by decide +kernel
def w_X8_ofTicket_23  (Q : Nat → Int32 → Sg → Prop) (x1 : Int32) (x2 : Int32) (y0 : Int32) (S : Sg) : Prop := (w_X8_fails y0 S (fun k3 v2 S1 => (k3 = 0 → ((v2 = 0 → (vp_in x1 400 ∧ (vp_in (S1.1 137 (nt x1)) 30 ∧ (vp_in (S1.1 123 (nt (S1.1 137 (nt x1)))) 4 ∧ (∀ v4, v4 = S1.1 104 (nt (S1.1 123 (nt (S1.1 137 (nt x1))))) → ((x2 = 0 → (vp_in x1 400 ∧ Q 0 (S1.1 137 (nt x1)) S1)) ∧ (¬ x2 = 0 → ((x2 = 1 → (vp_in x1 400 ∧ (¬ v4 = 0 ∧ Q 0 ((S1.1 138 (nt x1)) / v4) S1))) ∧ (¬ x2 = 1 → ((x2 = 2 → (vp_in x1 400 ∧ (¬ v4 = 0 ∧ Q 0 ((S1.1 138 (nt x1)) - (S1.1 138 (nt x1)) / v4 * v4) S1))) ∧ (¬ x2 = 2 → ((x2 = 3 → (vp_in x1 400 ∧ Q 0 (S1.1 139 (nt x1)) S1)) ∧ (¬ x2 = 3 → ((x2 = 4 → (vp_in x1 400 ∧ Q 0 (S1.1 140 (nt x1)) S1)) ∧ (¬ x2 = 4 → (vp_in x1 400 ∧ (((S1.1 141 (nt x1)) = 0 → Q 0 0 S1) ∧ (¬ (S1.1 141 (nt x1)) = 0 → Q 0 1 S1)))))))))))))))))) ∧ (¬ v2 = 0 → Q 0 0 S1))) ∧ (¬ k3 = 0 → Q k3 0 S1)))
theorem k_X8_ofTicket_23 (hT : xT X = tb1) (hl : l.stackTraces = false) (C : Cn X k0 p l R s m meth c cX8_ofTicket RX8 4 3 43) (hr : meth.sig.returnType = (some .int)) (hnm : meth.name = yX8_ofTicket.name) (htab : ∀ x ∈ c.exceptionTable.toList, False)  {x1 : Int32} {x2 : Int32} {y0 : Int32} {S : Sg} (h : w_X8_ofTicket_23  Qa x1 x2 y0 S) : V X p l e R s m args below meth c 4 (QM X below args s S0 ad0 rvI Qa) S0 ad0 S 23 [(0, Value.ref (enc 12 0)), (1, Value.int x1), (2, Value.int x2)] [Value.int y0, Value.ref (enc 12 0)] := by
  refine V_callV (pc := 23) C (ct_X8_fails hT hl h) g1120 g1122 g32 g1123 g64 ⟨by decide, by decide, pl_X8_fails⟩ (enc_ne63 (by decide)) (ct_obj hT rfl (by decide)) rfl ⟨by decide, by decide⟩ (rest := []) rfl (le8 rfl) dX8_ofTicket_23 (fun v2 S1 h => ?_) (fun k9 S9 hk h => VX_out C htab hk (h.2 (by omega)))
  replace h := h.1 rfl
  refine V_st (st' := [Value.int v2]) rfl ?_
  refine V_if_eq (pc := 26) (tgt := 31) C dX8_ofTicket_26 (by decide) h (fun h => ?_) (fun h => ?_)
  · refine V_aload_n (pc := 31) C dX8_ofTicket_31 rfl 0 rfl ?_
    refine V_getF (pc := 32) C hT f1_X8_4 g982 dX8_ofTicket_32 ?_
    refine V_aload_n (pc := 35) C dX8_ofTicket_35 rfl 0 rfl ?_
    refine V_getF (pc := 36) C hT f1_X8_23 g1001 dX8_ofTicket_36 ?_
    refine V_aload_n (pc := 39) C dX8_ofTicket_39 rfl 0 rfl ?_
    refine V_getF (pc := 40) C hT f1_X8_37 g1015 dX8_ofTicket_40 ?_
    refine V_iload_n (pc := 43) C dX8_ofTicket_43 rfl 1 rfl ?_
    refine V_mld (pc := 44) C hT tb1_arr (n := 400) (c9 := 137) rfl rfl rfl h dX8_ofTicket_44 (fun h => ?_)
    refine V_mld (pc := 45) C hT tb1_arr (n := 30) (c9 := 123) rfl rfl rfl h dX8_ofTicket_45 (fun h => ?_)
    refine V_mld (pc := 46) C hT tb1_arr (n := 4) (c9 := 104) rfl rfl rfl h dX8_ofTicket_46 (fun h => ?_)
    refine V_nI fun v4 e9 => ?_
    replace h := h v4 e9; clear e9
    refine V_istore_n (pc := 47) C dX8_ofTicket_47 rfl (by decide) rfl ?_
    refine V_iload_n (pc := 48) C dX8_ofTicket_48 rfl 3 rfl ?_
    refine V_case h (fun e9 h2 => ?_) (fun e100 h2 => ?_)
    · clear h
      subst e9
      replace h := h2; clear h2
      refine V_tableIn (pc := 49) (tgt := 84) C dX8_ofTicket_49 (by decide) (by decide) rfl (by decide) ?_
      refine V_aload_n (pc := 84) C dX8_ofTicket_84 rfl 1 rfl ?_
      refine V_getF (pc := 85) C hT f1_X8_37 g1015 dX8_ofTicket_85 ?_
      refine V_iload_n (pc := 88) C dX8_ofTicket_88 rfl 2 rfl ?_
      refine V_mld (pc := 89) C hT tb1_arr (n := 400) (c9 := 137) rfl rfl rfl h dX8_ofTicket_89 (fun h => ?_)
      exact V_iret (pc := 90) C hr rfl h dX8_ofTicket_90
    replace h := h2; clear h2
    refine V_case h (fun e9 h2 => ?_) (fun e101 h2 => ?_)
    · clear h
      subst e9
      replace h := h2; clear h2
      refine V_tableIn (pc := 49) (tgt := 91) C dX8_ofTicket_49 (by decide) (by decide) rfl (by decide) ?_
      refine V_aload_n (pc := 91) C dX8_ofTicket_91 rfl 1 rfl ?_
      refine V_getF (pc := 92) C hT f1_X8_38 g1016 dX8_ofTicket_92 ?_
      refine V_iload_n (pc := 95) C dX8_ofTicket_95 rfl 2 rfl ?_
      refine V_mld (pc := 96) C hT tb1_arr (n := 400) (c9 := 138) rfl rfl rfl h dX8_ofTicket_96 (fun h => ?_)
      refine V_iload_n (pc := 97) C dX8_ofTicket_97 rfl 0 rfl ?_
      refine V_idiv (pc := 98) C dX8_ofTicket_98 h.1 ?_
      replace h := h.2
      exact V_iret (pc := 99) C hr rfl h dX8_ofTicket_99
    replace h := h2; clear h2
    refine V_case h (fun e9 h2 => ?_) (fun e102 h2 => ?_)
    · clear h
      subst e9
      replace h := h2; clear h2
      refine V_tableIn (pc := 49) (tgt := 100) C dX8_ofTicket_49 (by decide) (by decide) rfl (by decide) ?_
      refine V_aload_n (pc := 100) C dX8_ofTicket_100 rfl 1 rfl ?_
      refine V_getF (pc := 101) C hT f1_X8_38 g1016 dX8_ofTicket_101 ?_
      refine V_iload_n (pc := 104) C dX8_ofTicket_104 rfl 2 rfl ?_
      refine V_mld (pc := 105) C hT tb1_arr (n := 400) (c9 := 138) rfl rfl rfl h dX8_ofTicket_105 (fun h => ?_)
      refine V_iload_n (pc := 106) C dX8_ofTicket_106 rfl 0 rfl ?_
      refine V_irem (pc := 107) C dX8_ofTicket_107 h.1 ?_
      replace h := h.2
      exact V_iret (pc := 108) C hr rfl h dX8_ofTicket_108
    replace h := h2; clear h2
    refine V_case h (fun e9 h2 => ?_) (fun e103 h2 => ?_)
    · clear h
      subst e9
      replace h := h2; clear h2
      refine V_tableIn (pc := 49) (tgt := 109) C dX8_ofTicket_49 (by decide) (by decide) rfl (by decide) ?_
      refine V_aload_n (pc := 109) C dX8_ofTicket_109 rfl 1 rfl ?_
      refine V_getF (pc := 110) C hT f1_X8_39 g1017 dX8_ofTicket_110 ?_
      refine V_iload_n (pc := 113) C dX8_ofTicket_113 rfl 2 rfl ?_
      refine V_mld (pc := 114) C hT tb1_arr (n := 400) (c9 := 139) rfl rfl rfl h dX8_ofTicket_114 (fun h => ?_)
      exact V_iret (pc := 115) C hr rfl h dX8_ofTicket_115
    replace h := h2; clear h2
    refine V_case h (fun e9 h2 => ?_) (fun e104 h2 => ?_)
    · clear h
      subst e9
      replace h := h2; clear h2
      refine V_tableIn (pc := 49) (tgt := 116) C dX8_ofTicket_49 (by decide) (by decide) rfl (by decide) ?_
      refine V_aload_n (pc := 116) C dX8_ofTicket_116 rfl 1 rfl ?_
      refine V_getF (pc := 117) C hT f1_X8_40 g1018 dX8_ofTicket_117 ?_
      refine V_iload_n (pc := 120) C dX8_ofTicket_120 rfl 2 rfl ?_
      refine V_mld (pc := 121) C hT tb1_arr (n := 400) (c9 := 140) rfl rfl rfl h dX8_ofTicket_121 (fun h => ?_)
      exact V_iret (pc := 122) C hr rfl h dX8_ofTicket_122
    replace h := h2; clear h2
    refine V_tableOut (pc := 49) (tgt := 123) C dX8_ofTicket_49 (tbl_out (n := 4) (by decide) (fun k hk => ?_)) (by decide) ?_
    · have hk2 : k = 0 ∨ k = 1 ∨ k = 2 ∨ k = 3 ∨ k = 4 := by omega
      rcases hk2 with rfl | rfl | rfl | rfl | rfl <;> assumption
    refine V_aload_n (pc := 123) C dX8_ofTicket_123 rfl 1 rfl ?_
    refine V_getF (pc := 124) C hT f1_X8_41 g1019 dX8_ofTicket_124 ?_
    refine V_iload_n (pc := 127) C dX8_ofTicket_127 rfl 2 rfl ?_
    refine V_mldZ (pc := 128) C hT tb1_arr (n := 400) (c9 := 141) rfl rfl rfl h dX8_ofTicket_128 (fun h => ?_)
    refine V_if_eq (pc := 129) (tgt := 136) C dX8_ofTicket_129 (by decide) h (fun h => ?_) (fun h => ?_)
    · refine V_iconst (pc := 136) C (v := 0) dX8_ofTicket_136 rfl ?_
      exact V_iret (pc := 137) C hr rfl h dX8_ofTicket_137
    · refine V_iconst (pc := 132) C (v := 1) dX8_ofTicket_132 rfl ?_
      refine V_goto (pc := 133) (tgt := 137) C dX8_ofTicket_133 (by decide) ?_
      exact V_iret (pc := 137) C hr rfl h dX8_ofTicket_137
  · refine V_iconst (pc := 29) C (v := 0) dX8_ofTicket_29 rfl ?_
    exact V_iret (pc := 30) C hr rfl h dX8_ofTicket_30
def w_X8_ofTicket_22  (Q : Nat → Int32 → Sg → Prop) (x1 : Int32) (x2 : Int32) (S : Sg) : Prop := w_X8_ofTicket_23  Q x1 x2 1 S
theorem k_X8_ofTicket_22 (hT : xT X = tb1) (hl : l.stackTraces = false) (C : Cn X k0 p l R s m meth c cX8_ofTicket RX8 4 3 43) (hr : meth.sig.returnType = (some .int)) (hnm : meth.name = yX8_ofTicket.name) (htab : ∀ x ∈ c.exceptionTable.toList, False)  {x1 : Int32} {x2 : Int32} {S : Sg} (h : w_X8_ofTicket_22  Qa x1 x2 S) : V X p l e R s m args below meth c 4 (QM X below args s S0 ad0 rvI Qa) S0 ad0 S 22 [(0, Value.ref (enc 12 0)), (1, Value.int x1), (2, Value.int x2)] [Value.ref (enc 12 0)] := by
  refine V_iconst (pc := 22) C (v := 1) dX8_ofTicket_22 rfl ?_
  refine V_sub [0, 1, 2] rfl ?_
  exact k_X8_ofTicket_23 hT hl C hr hnm htab  h
def w_X8_ofTicket (a1 : Int32) (a2 : Int32) (S : Sg) (Q : Nat → Int32 → Sg → Prop) : Prop := (w_X8_isTicket a1 S (fun k7 v6 S5 => (k7 = 0 → ((v6 = 0 → w_X8_ofTicket_22  Q a1 a2 S5) ∧ (¬ v6 = 0 → (w_X8_isIn a2 0 5 S5 (fun k10 v9 S8 => (k10 = 0 → ((v9 = 0 → w_X8_ofTicket_22  Q a1 a2 S8) ∧ (¬ v9 = 0 → w_X8_ofTicket_23  Q a1 a2 0 S8))) ∧ (¬ k10 = 0 → Q k10 0 S8)))))) ∧ (¬ k7 = 0 → Q k7 0 S5)))
theorem ct_X8_ofTicket (hT : xT X = tb1) (hl : l.stackTraces = false) {a1 : Int32} {a2 : Int32} {S : Sg} (h : w_X8_ofTicket a1 a2 S Qa) : CT X k0 l yX8_ofTicket cX8_ofTicket 4 (some .int) 3 43 [Value.ref (enc 12 0), Value.int a1, Value.int a2] rvI S Qa :=
  CT_ofV (own := RX8) (by decide +kernel) (le8 rfl) rfl hl fun p e R s m args below meth c ad0 C hr hnm htab => by
    refine V_aload_n (pc := 0) C dX8_ofTicket_0 rfl 0 rfl ?_
    refine V_aload_n (pc := 1) C dX8_ofTicket_1 rfl 0 rfl ?_
    refine V_iload_n (pc := 2) C dX8_ofTicket_2 rfl 1 rfl ?_
    refine V_callV (pc := 3) C (ct_X8_isTicket hT hl h) g1257 g1259 g50 g1260 g64 ⟨by decide, by decide, pl_X8_isTicket⟩ (enc_ne63 (by decide)) (ct_obj hT rfl (by decide)) rfl ⟨by decide, by decide⟩ (rest := [Value.ref (enc 12 0)]) rfl (le8 rfl) dX8_ofTicket_3 (fun v6 S5 h => ?_) (fun k9 S9 hk h => VX_out C htab hk (h.2 (by omega)))
    replace h := h.1 rfl
    refine V_st (st' := [Value.int v6, Value.ref (enc 12 0)]) rfl ?_
    refine V_if_eq (pc := 6) (tgt := 22) C dX8_ofTicket_6 (by decide) h (fun h => ?_) (fun h => ?_)
    · refine V_sub [0, 1, 2] rfl ?_
      exact k_X8_ofTicket_22 hT hl C hr hnm htab  h
    · refine V_iload_n (pc := 9) C dX8_ofTicket_9 rfl 2 rfl ?_
      refine V_iconst (pc := 10) C (v := 0) dX8_ofTicket_10 rfl ?_
      refine V_iconst (pc := 11) C (v := 5) dX8_ofTicket_11 rfl ?_
      refine V_callS (pc := 12) C (ct_X8_isIn hT hl h) g1117 g1118 g1119 g64 ⟨by decide, by decide, pl_X8_isIn⟩ ⟨by decide, by decide⟩ (rest := [Value.ref (enc 12 0)]) rfl (le8 rfl) dX8_ofTicket_12 (fun v9 S8 h => ?_) (fun k9 S9 hk h => VX_out C htab hk (h.2 (by omega)))
      replace h := h.1 rfl
      refine V_st (st' := [Value.int v9, Value.ref (enc 12 0)]) rfl ?_
      refine V_if_eq (pc := 15) (tgt := 22) C dX8_ofTicket_15 (by decide) h (fun h => ?_) (fun h => ?_)
      · refine V_sub [0, 1, 2] rfl ?_
        exact k_X8_ofTicket_22 hT hl C hr hnm htab  h
      · refine V_iconst (pc := 18) C (v := 0) dX8_ofTicket_18 rfl ?_
        refine V_goto (pc := 19) (tgt := 23) C dX8_ofTicket_19 (by decide) ?_
        refine V_sub [0, 1, 2] rfl ?_
        exact k_X8_ofTicket_23 hT hl C hr hnm htab  h
theorem pl_X8_running : (parseMethodDescriptor yX8_running.desc).map (fun d => d.parameters.length) = some 1 := by decide +kernel
def w_X8_running_37 (k4 : Int32 → Int32 → Int32 → Sg → Prop) (Q : Nat → Int32 → Sg → Prop) (x1 : Int32) (x3 : Int32) (y0 : Int32) (S : Sg) : Prop := k4 x1 y0 (x3 + 1) S
theorem k_X8_running_37 (hT : xT X = tb1) (hl : l.stackTraces = false) (C : Cn X k0 p l R s m meth c cX8_running RX8 4 1 0) (hr : meth.sig.returnType = (some .int)) (hnm : meth.name = yX8_running.name) (htab : ∀ x ∈ c.exceptionTable.toList, False) {k4 : Int32 → Int32 → Int32 → Sg → Prop} (hk4 : ∀ {x1 : Int32} {x2 : Int32} {x3 : Int32} {S : Sg}, k4 x1 x2 x3 S → V X p l e R s m args below meth c 4 (QM X below args s S0 ad0 rvI Qa) S0 ad0 S 4 [(0, Value.ref (enc 12 0)), (1, Value.int x1), (2, Value.int x2), (3, Value.int x3)] []) {x1 : Int32} {x3 : Int32} {y0 : Int32} {S : Sg} (h : w_X8_running_37 k4 Qa x1 x3 y0 S) : V X p l e R s m args below meth c 4 (QM X below args s S0 ad0 rvI Qa) S0 ad0 S 37 [(0, Value.ref (enc 12 0)), (1, Value.int x1), (3, Value.int x3)] [Value.int y0] := by
  refine V_istore_n (pc := 37) C dX8_running_37 rfl (by decide) rfl ?_
  refine V_iinc (pc := 38) C (a := 3) (v := x3 + 1) dX8_running_38 rfl rfl (by decide) rfl ?_
  refine V_goto (pc := 41) (tgt := 4) C dX8_running_41 (by decide) ?_
  refine V_sub [2, 3, 1, 0] rfl ?_
  exact hk4 h
def w_X8_running_36 (k4 : Int32 → Int32 → Int32 → Sg → Prop) (Q : Nat → Int32 → Sg → Prop) (x1 : Int32) (x2 : Int32) (x3 : Int32) (S : Sg) : Prop := w_X8_running_37 k4 Q x1 x3 x2 S
theorem k_X8_running_36 (hT : xT X = tb1) (hl : l.stackTraces = false) (C : Cn X k0 p l R s m meth c cX8_running RX8 4 1 0) (hr : meth.sig.returnType = (some .int)) (hnm : meth.name = yX8_running.name) (htab : ∀ x ∈ c.exceptionTable.toList, False) {k4 : Int32 → Int32 → Int32 → Sg → Prop} (hk4 : ∀ {x1 : Int32} {x2 : Int32} {x3 : Int32} {S : Sg}, k4 x1 x2 x3 S → V X p l e R s m args below meth c 4 (QM X below args s S0 ad0 rvI Qa) S0 ad0 S 4 [(0, Value.ref (enc 12 0)), (1, Value.int x1), (2, Value.int x2), (3, Value.int x3)] []) {x1 : Int32} {x2 : Int32} {x3 : Int32} {S : Sg} (h : w_X8_running_36 k4 Qa x1 x2 x3 S) : V X p l e R s m args below meth c 4 (QM X below args s S0 ad0 rvI Qa) S0 ad0 S 36 [(0, Value.ref (enc 12 0)), (1, Value.int x1), (2, Value.int x2), (3, Value.int x3)] [] := by
  refine V_iload_n (pc := 36) C dX8_running_36 rfl 2 rfl ?_
  refine V_sub [0, 1, 3] rfl ?_
  exact k_X8_running_37 hT hl C hr hnm htab (fun h => hk4 h) h
def w_X8_running_4  (Q : Nat → Int32 → Sg → Prop) : Nat → Int32 → Int32 → Int32 → Sg → Prop
  | 0, _, _, _, _ => False
  | n + 1, x1, x2, x3, S => (((S.1 321 0) ≤ x3 → Q 0 x2 S) ∧ (¬ (S.1 321 0) ≤ x3 → (vp_in x3 30 ∧ (((S.1 125 (nt x3)) = 1 → (vp_in x3 30 ∧ (((S.1 123 (nt x3)) = x1 → w_X8_running_37 (fun x1 x2 x3 S => w_X8_running_4  Q n x1 x2 x3 S) Q x1 x3 x3 S) ∧ (¬ (S.1 123 (nt x3)) = x1 → w_X8_running_36 (fun x1 x2 x3 S => w_X8_running_4  Q n x1 x2 x3 S) Q x1 x2 x3 S)))) ∧ (¬ (S.1 125 (nt x3)) = 1 → w_X8_running_36 (fun x1 x2 x3 S => w_X8_running_4  Q n x1 x2 x3 S) Q x1 x2 x3 S)))))
theorem k_X8_running_4 (hT : xT X = tb1) (hl : l.stackTraces = false) (C : Cn X k0 p l R s m meth c cX8_running RX8 4 1 0) (hr : meth.sig.returnType = (some .int)) (hnm : meth.name = yX8_running.name) (htab : ∀ x ∈ c.exceptionTable.toList, False)  : ∀ n {x1 : Int32} {x2 : Int32} {x3 : Int32} {S : Sg}, w_X8_running_4  Qa n x1 x2 x3 S → V X p l e R s m args below meth c 4 (QM X below args s S0 ad0 rvI Qa) S0 ad0 S 4 [(0, Value.ref (enc 12 0)), (1, Value.int x1), (2, Value.int x2), (3, Value.int x3)] [] := by
  intro n
  induction n with
  | zero => intro x1 x2 x3 S h; exact h.elim
  | succ n ih =>
    intro x1 x2 x3 S h
    refine V_iload_n (pc := 4) C dX8_running_4 rfl 3 rfl ?_
    refine V_aload_n (pc := 5) C dX8_running_5 rfl 0 rfl ?_
    refine V_getI (pc := 6) C hT f1_X8_21 g999 dX8_running_6 ?_
    refine V_icmp_ge (pc := 9) (tgt := 44) C dX8_running_9 (by decide) h (fun h => ?_) (fun h => ?_)
    · refine V_iload_n (pc := 44) C dX8_running_44 rfl 2 rfl ?_
      exact V_iret (pc := 45) C hr rfl h dX8_running_45
    · refine V_aload_n (pc := 12) C dX8_running_12 rfl 0 rfl ?_
      refine V_getF (pc := 13) C hT f1_X8_25 g1003 dX8_running_13 ?_
      refine V_iload_n (pc := 16) C dX8_running_16 rfl 3 rfl ?_
      refine V_mld (pc := 17) C hT tb1_arr (n := 30) (c9 := 125) rfl rfl rfl h dX8_running_17 (fun h => ?_)
      refine V_iconst (pc := 18) C (v := 1) dX8_running_18 rfl ?_
      refine V_icmp_ne (pc := 19) (tgt := 36) C dX8_running_19 (by decide) h (fun h => ?_) (fun h => ?_)
      · refine V_sub [0, 1, 2, 3] rfl ?_
        exact k_X8_running_36 hT hl C hr hnm htab (fun h => ih h) h
      · refine V_aload_n (pc := 22) C dX8_running_22 rfl 0 rfl ?_
        refine V_getF (pc := 23) C hT f1_X8_23 g1001 dX8_running_23 ?_
        refine V_iload_n (pc := 26) C dX8_running_26 rfl 3 rfl ?_
        refine V_mld (pc := 27) C hT tb1_arr (n := 30) (c9 := 123) rfl rfl rfl h dX8_running_27 (fun h => ?_)
        refine V_iload_n (pc := 28) C dX8_running_28 rfl 1 rfl ?_
        refine V_icmp_ne (pc := 29) (tgt := 36) C dX8_running_29 (by decide) h (fun h => ?_) (fun h => ?_)
        · refine V_sub [0, 1, 2, 3] rfl ?_
          exact k_X8_running_36 hT hl C hr hnm htab (fun h => ih h) h
        · refine V_iload_n (pc := 32) C dX8_running_32 rfl 3 rfl ?_
          refine V_goto (pc := 33) (tgt := 37) C dX8_running_33 (by decide) ?_
          refine V_sub [0, 1, 3] rfl ?_
          exact k_X8_running_37 hT hl C hr hnm htab (fun h => ih h) h
def w_X8_running (a1 : Int32) (S : Sg) (Q : Nat → Int32 → Sg → Prop) : Prop := ∃ n9, w_X8_running_4  Q n9 a1 (-1) 0 S
theorem ct_X8_running (hT : xT X = tb1) (hl : l.stackTraces = false) {a1 : Int32} {S : Sg} (h : w_X8_running a1 S Qa) : CT X k0 l yX8_running cX8_running 4 (some .int) 1 0 [Value.ref (enc 12 0), Value.int a1] rvI S Qa :=
  CT_ofV (own := RX8) (by decide +kernel) (le8 rfl) rfl hl fun p e R s m args below meth c ad0 C hr hnm htab => by
    refine V_iconst (pc := 0) C (v := (-1)) dX8_running_0 rfl ?_
    refine V_istore_n (pc := 1) C dX8_running_1 rfl (by decide) rfl ?_
    refine V_iconst (pc := 2) C (v := 0) dX8_running_2 rfl ?_
    refine V_istore_n (pc := 3) C dX8_running_3 rfl (by decide) rfl ?_
    refine V_sub [2, 3, 1, 0] rfl ?_
    obtain ⟨n9, h⟩ := h
    exact k_X8_running_4 hT hl C hr hnm htab  n9 h
theorem pl_X8_ofHall : (parseMethodDescriptor yX8_ofHall.desc).map (fun d => d.parameters.length) = some 2 := by decide +kernel
def w_X8_ofHall_23  (Q : Nat → Int32 → Sg → Prop) (x1 : Int32) (x2 : Int32) (y0 : Int32) (S : Sg) : Prop := (w_X8_fails y0 S (fun k3 v2 S1 => (k3 = 0 → ((v2 = 0 → ((x2 = 0 → (vp_in x1 4 ∧ (vp_in x1 4 ∧ Q 0 ((S1.1 103 (nt x1)) * (S1.1 104 (nt x1))) S1))) ∧ (¬ x2 = 0 → ((x2 = 1 → (vp_in x1 4 ∧ Q 0 (S1.1 105 (nt x1)) S1)) ∧ (¬ x2 = 1 → ((x2 = 2 → (vp_in x1 4 ∧ Q 0 (S1.1 106 (nt x1)) S1)) ∧ (¬ x2 = 2 → (w_X8_running x1 S1 (fun k6 v5 S4 => (k6 = 0 → Q 0 v5 S4) ∧ (¬ k6 = 0 → Q k6 0 S4)))))))))) ∧ (¬ v2 = 0 → Q 0 0 S1))) ∧ (¬ k3 = 0 → Q k3 0 S1)))
theorem k_X8_ofHall_23 (hT : xT X = tb1) (hl : l.stackTraces = false) (C : Cn X k0 p l R s m meth c cX8_ofHall RX8 3 3 43) (hr : meth.sig.returnType = (some .int)) (hnm : meth.name = yX8_ofHall.name) (htab : ∀ x ∈ c.exceptionTable.toList, False)  {x1 : Int32} {x2 : Int32} {y0 : Int32} {S : Sg} (h : w_X8_ofHall_23  Qa x1 x2 y0 S) : V X p l e R s m args below meth c 3 (QM X below args s S0 ad0 rvI Qa) S0 ad0 S 23 [(0, Value.ref (enc 12 0)), (1, Value.int x1), (2, Value.int x2)] [Value.int y0, Value.ref (enc 12 0)] := by
  refine V_callV (pc := 23) C (ct_X8_fails hT hl h) g1120 g1122 g32 g1123 g64 ⟨by decide, by decide, pl_X8_fails⟩ (enc_ne63 (by decide)) (ct_obj hT rfl (by decide)) rfl ⟨by decide, by decide⟩ (rest := []) rfl (le8 rfl) dX8_ofHall_23 (fun v2 S1 h => ?_) (fun k9 S9 hk h => VX_out C htab hk (h.2 (by omega)))
  replace h := h.1 rfl
  refine V_st (st' := [Value.int v2]) rfl ?_
  refine V_if_eq (pc := 26) (tgt := 31) C dX8_ofHall_26 (by decide) h (fun h => ?_) (fun h => ?_)
  · refine V_iload_n (pc := 31) C dX8_ofHall_31 rfl 2 rfl ?_
    refine V_if_ne (pc := 32) (tgt := 51) C dX8_ofHall_32 (by decide) h (fun h => ?_) (fun h => ?_)
    · refine V_iload_n (pc := 51) C dX8_ofHall_51 rfl 2 rfl ?_
      refine V_iconst (pc := 52) C (v := 1) dX8_ofHall_52 rfl ?_
      refine V_icmp_ne (pc := 53) (tgt := 65) C dX8_ofHall_53 (by decide) h (fun h => ?_) (fun h => ?_)
      · refine V_iload_n (pc := 65) C dX8_ofHall_65 rfl 2 rfl ?_
        refine V_iconst (pc := 66) C (v := 2) dX8_ofHall_66 rfl ?_
        refine V_icmp_ne (pc := 67) (tgt := 79) C dX8_ofHall_67 (by decide) h (fun h => ?_) (fun h => ?_)
        · refine V_aload_n (pc := 79) C dX8_ofHall_79 rfl 0 rfl ?_
          refine V_iload_n (pc := 80) C dX8_ofHall_80 rfl 1 rfl ?_
          refine V_callV (pc := 81) C (ct_X8_running hT hl h) g1309 g1311 g55 g1312 g64 ⟨by decide, by decide, pl_X8_running⟩ (enc_ne63 (by decide)) (ct_obj hT rfl (by decide)) rfl ⟨by decide, by decide⟩ (rest := []) rfl (le8 rfl) dX8_ofHall_81 (fun v5 S4 h => ?_) (fun k9 S9 hk h => VX_out C htab hk (h.2 (by omega)))
          replace h := h.1 rfl
          refine V_st (st' := [Value.int v5]) rfl ?_
          exact V_iret (pc := 84) C hr rfl h dX8_ofHall_84
        · refine V_aload_n (pc := 70) C dX8_ofHall_70 rfl 0 rfl ?_
          refine V_getF (pc := 71) C hT f1_X8_6 g984 dX8_ofHall_71 ?_
          refine V_iload_n (pc := 74) C dX8_ofHall_74 rfl 1 rfl ?_
          refine V_mld (pc := 75) C hT tb1_arr (n := 4) (c9 := 106) rfl rfl rfl h dX8_ofHall_75 (fun h => ?_)
          refine V_goto (pc := 76) (tgt := 84) C dX8_ofHall_76 (by decide) ?_
          exact V_iret (pc := 84) C hr rfl h dX8_ofHall_84
      · refine V_aload_n (pc := 56) C dX8_ofHall_56 rfl 0 rfl ?_
        refine V_getF (pc := 57) C hT f1_X8_5 g983 dX8_ofHall_57 ?_
        refine V_iload_n (pc := 60) C dX8_ofHall_60 rfl 1 rfl ?_
        refine V_mld (pc := 61) C hT tb1_arr (n := 4) (c9 := 105) rfl rfl rfl h dX8_ofHall_61 (fun h => ?_)
        refine V_goto (pc := 62) (tgt := 84) C dX8_ofHall_62 (by decide) ?_
        exact V_iret (pc := 84) C hr rfl h dX8_ofHall_84
    · refine V_aload_n (pc := 35) C dX8_ofHall_35 rfl 0 rfl ?_
      refine V_getF (pc := 36) C hT f1_X8_3 g981 dX8_ofHall_36 ?_
      refine V_iload_n (pc := 39) C dX8_ofHall_39 rfl 1 rfl ?_
      refine V_mld (pc := 40) C hT tb1_arr (n := 4) (c9 := 103) rfl rfl rfl h dX8_ofHall_40 (fun h => ?_)
      refine V_aload_n (pc := 41) C dX8_ofHall_41 rfl 0 rfl ?_
      refine V_getF (pc := 42) C hT f1_X8_4 g982 dX8_ofHall_42 ?_
      refine V_iload_n (pc := 45) C dX8_ofHall_45 rfl 1 rfl ?_
      refine V_mld (pc := 46) C hT tb1_arr (n := 4) (c9 := 104) rfl rfl rfl h dX8_ofHall_46 (fun h => ?_)
      refine V_imul (pc := 47) C dX8_ofHall_47 ?_
      refine V_goto (pc := 48) (tgt := 84) C dX8_ofHall_48 (by decide) ?_
      exact V_iret (pc := 84) C hr rfl h dX8_ofHall_84
  · refine V_iconst (pc := 29) C (v := 0) dX8_ofHall_29 rfl ?_
    exact V_iret (pc := 30) C hr rfl h dX8_ofHall_30
def w_X8_ofHall_22  (Q : Nat → Int32 → Sg → Prop) (x1 : Int32) (x2 : Int32) (S : Sg) : Prop := w_X8_ofHall_23  Q x1 x2 1 S
theorem k_X8_ofHall_22 (hT : xT X = tb1) (hl : l.stackTraces = false) (C : Cn X k0 p l R s m meth c cX8_ofHall RX8 3 3 43) (hr : meth.sig.returnType = (some .int)) (hnm : meth.name = yX8_ofHall.name) (htab : ∀ x ∈ c.exceptionTable.toList, False)  {x1 : Int32} {x2 : Int32} {S : Sg} (h : w_X8_ofHall_22  Qa x1 x2 S) : V X p l e R s m args below meth c 3 (QM X below args s S0 ad0 rvI Qa) S0 ad0 S 22 [(0, Value.ref (enc 12 0)), (1, Value.int x1), (2, Value.int x2)] [Value.ref (enc 12 0)] := by
  refine V_iconst (pc := 22) C (v := 1) dX8_ofHall_22 rfl ?_
  refine V_sub [0, 1, 2] rfl ?_
  exact k_X8_ofHall_23 hT hl C hr hnm htab  h
def w_X8_ofHall (a1 : Int32) (a2 : Int32) (S : Sg) (Q : Nat → Int32 → Sg → Prop) : Prop := (w_X8_isHall a1 S (fun k9 v8 S7 => (k9 = 0 → ((v8 = 0 → w_X8_ofHall_22  Q a1 a2 S7) ∧ (¬ v8 = 0 → (w_X8_isIn a2 0 3 S7 (fun k12 v11 S10 => (k12 = 0 → ((v11 = 0 → w_X8_ofHall_22  Q a1 a2 S10) ∧ (¬ v11 = 0 → w_X8_ofHall_23  Q a1 a2 0 S10))) ∧ (¬ k12 = 0 → Q k12 0 S10)))))) ∧ (¬ k9 = 0 → Q k9 0 S7)))
theorem ct_X8_ofHall (hT : xT X = tb1) (hl : l.stackTraces = false) {a1 : Int32} {a2 : Int32} {S : Sg} (h : w_X8_ofHall a1 a2 S Qa) : CT X k0 l yX8_ofHall cX8_ofHall 3 (some .int) 3 43 [Value.ref (enc 12 0), Value.int a1, Value.int a2] rvI S Qa :=
  CT_ofV (own := RX8) (by decide +kernel) (le8 rfl) rfl hl fun p e R s m args below meth c ad0 C hr hnm htab => by
    refine V_aload_n (pc := 0) C dX8_ofHall_0 rfl 0 rfl ?_
    refine V_aload_n (pc := 1) C dX8_ofHall_1 rfl 0 rfl ?_
    refine V_iload_n (pc := 2) C dX8_ofHall_2 rfl 1 rfl ?_
    refine V_callV (pc := 3) C (ct_X8_isHall hT hl h) g1128 g1130 g33 g1131 g64 ⟨by decide, by decide, pl_X8_isHall⟩ (enc_ne63 (by decide)) (ct_obj hT rfl (by decide)) rfl ⟨by decide, by decide⟩ (rest := [Value.ref (enc 12 0)]) rfl (le8 rfl) dX8_ofHall_3 (fun v8 S7 h => ?_) (fun k9 S9 hk h => VX_out C htab hk (h.2 (by omega)))
    replace h := h.1 rfl
    refine V_st (st' := [Value.int v8, Value.ref (enc 12 0)]) rfl ?_
    refine V_if_eq (pc := 6) (tgt := 22) C dX8_ofHall_6 (by decide) h (fun h => ?_) (fun h => ?_)
    · refine V_sub [0, 1, 2] rfl ?_
      exact k_X8_ofHall_22 hT hl C hr hnm htab  h
    · refine V_iload_n (pc := 9) C dX8_ofHall_9 rfl 2 rfl ?_
      refine V_iconst (pc := 10) C (v := 0) dX8_ofHall_10 rfl ?_
      refine V_iconst (pc := 11) C (v := 3) dX8_ofHall_11 rfl ?_
      refine V_callS (pc := 12) C (ct_X8_isIn hT hl h) g1117 g1118 g1119 g64 ⟨by decide, by decide, pl_X8_isIn⟩ ⟨by decide, by decide⟩ (rest := [Value.ref (enc 12 0)]) rfl (le8 rfl) dX8_ofHall_12 (fun v11 S10 h => ?_) (fun k9 S9 hk h => VX_out C htab hk (h.2 (by omega)))
      replace h := h.1 rfl
      refine V_st (st' := [Value.int v11, Value.ref (enc 12 0)]) rfl ?_
      refine V_if_eq (pc := 15) (tgt := 22) C dX8_ofHall_15 (by decide) h (fun h => ?_) (fun h => ?_)
      · refine V_sub [0, 1, 2] rfl ?_
        exact k_X8_ofHall_22 hT hl C hr hnm htab  h
      · refine V_iconst (pc := 18) C (v := 0) dX8_ofHall_18 rfl ?_
        refine V_goto (pc := 19) (tgt := 23) C dX8_ofHall_19 (by decide) ?_
        refine V_sub [0, 1, 2] rfl ?_
        exact k_X8_ofHall_23 hT hl C hr hnm htab  h
theorem pl_X8_opening : (parseMethodDescriptor yX8_opening.desc).map (fun d => d.parameters.length) = some 1 := by decide +kernel
def w_X8_opening_77 (k4 : Int32 → Int32 → Int32 → Sg → Prop) (Q : Nat → Int32 → Sg → Prop) (x1 : Int32) (x3 : Int32) (y0 : Int32) (S : Sg) : Prop := k4 x1 y0 (x3 + 1) S
theorem k_X8_opening_77 (hT : xT X = tb1) (hl : l.stackTraces = false) (C : Cn X k0 p l R s m meth c cX8_opening RX8 5 1 0) (hr : meth.sig.returnType = (some .int)) (hnm : meth.name = yX8_opening.name) (htab : ∀ x ∈ c.exceptionTable.toList, False) {k4 : Int32 → Int32 → Int32 → Sg → Prop} (hk4 : ∀ {x1 : Int32} {x2 : Int32} {x3 : Int32} {S : Sg}, k4 x1 x2 x3 S → V X p l e R s m args below meth c 5 (QM X below args s S0 ad0 rvI Qa) S0 ad0 S 4 [(0, Value.ref (enc 12 0)), (1, Value.int x1), (2, Value.int x2), (3, Value.int x3)] []) {x1 : Int32} {x3 : Int32} {y0 : Int32} {S : Sg} (h : w_X8_opening_77 k4 Qa x1 x3 y0 S) : V X p l e R s m args below meth c 5 (QM X below args s S0 ad0 rvI Qa) S0 ad0 S 77 [(0, Value.ref (enc 12 0)), (1, Value.int x1), (3, Value.int x3)] [Value.int y0] := by
  refine V_istore_n (pc := 77) C dX8_opening_77 rfl (by decide) rfl ?_
  refine V_iinc (pc := 78) C (a := 3) (v := x3 + 1) dX8_opening_78 rfl rfl (by decide) rfl ?_
  refine V_goto (pc := 81) (tgt := 4) C dX8_opening_81 (by decide) ?_
  refine V_sub [2, 3, 1, 0] rfl ?_
  exact hk4 h
def w_X8_opening_56 (k4 : Int32 → Int32 → Int32 → Sg → Prop) (Q : Nat → Int32 → Sg → Prop) (x1 : Int32) (x2 : Int32) (x3 : Int32) (y0 : Int32) (S : Sg) : Prop := ((y0 = 0 → w_X8_opening_77 k4 Q x1 x3 x2 S) ∧ (¬ y0 = 0 → (vp_in x3 30 ∧ w_X8_opening_77 k4 Q x1 x3 ((S.1 124 (nt x3)) / 10080) S)))
theorem k_X8_opening_56 (hT : xT X = tb1) (hl : l.stackTraces = false) (C : Cn X k0 p l R s m meth c cX8_opening RX8 5 1 0) (hr : meth.sig.returnType = (some .int)) (hnm : meth.name = yX8_opening.name) (htab : ∀ x ∈ c.exceptionTable.toList, False) {k4 : Int32 → Int32 → Int32 → Sg → Prop} (hk4 : ∀ {x1 : Int32} {x2 : Int32} {x3 : Int32} {S : Sg}, k4 x1 x2 x3 S → V X p l e R s m args below meth c 5 (QM X below args s S0 ad0 rvI Qa) S0 ad0 S 4 [(0, Value.ref (enc 12 0)), (1, Value.int x1), (2, Value.int x2), (3, Value.int x3)] []) {x1 : Int32} {x2 : Int32} {x3 : Int32} {y0 : Int32} {S : Sg} (h : w_X8_opening_56 k4 Qa x1 x2 x3 y0 S) : V X p l e R s m args below meth c 5 (QM X below args s S0 ad0 rvI Qa) S0 ad0 S 56 [(0, Value.ref (enc 12 0)), (1, Value.int x1), (2, Value.int x2), (3, Value.int x3)] [Value.int y0] := by
  refine V_istore (pc := 56) C dX8_opening_56 (by decide) rfl ?_
  refine V_iload (pc := 58) C dX8_opening_58 0 rfl ?_
  refine V_if_eq (pc := 60) (tgt := 76) C dX8_opening_60 (by decide) h (fun h => ?_) (fun h => ?_)
  · refine V_iload_n (pc := 76) C dX8_opening_76 rfl 3 rfl ?_
    refine V_sub [1, 2, 4] rfl ?_
    exact k_X8_opening_77 hT hl C hr hnm htab (fun h => hk4 h) h
  · refine V_aload_n (pc := 63) C dX8_opening_63 rfl 1 rfl ?_
    refine V_getF (pc := 64) C hT f1_X8_24 g1002 dX8_opening_64 ?_
    refine V_iload_n (pc := 67) C dX8_opening_67 rfl 4 rfl ?_
    refine V_mld (pc := 68) C hT tb1_arr (n := 30) (c9 := 124) rfl rfl rfl h dX8_opening_68 (fun h => ?_)
    refine V_sipush (pc := 69) C (v := 10080) dX8_opening_69 rfl ?_
    refine V_idiv (pc := 72) C dX8_opening_72 (by decide) ?_
    refine V_goto (pc := 73) (tgt := 77) C dX8_opening_73 (by decide) ?_
    refine V_sub [1, 2, 4] rfl ?_
    exact k_X8_opening_77 hT hl C hr hnm htab (fun h => hk4 h) h
def w_X8_opening_55 (k4 : Int32 → Int32 → Int32 → Sg → Prop) (Q : Nat → Int32 → Sg → Prop) (x1 : Int32) (x2 : Int32) (x3 : Int32) (S : Sg) : Prop := w_X8_opening_56 k4 Q x1 x2 x3 0 S
theorem k_X8_opening_55 (hT : xT X = tb1) (hl : l.stackTraces = false) (C : Cn X k0 p l R s m meth c cX8_opening RX8 5 1 0) (hr : meth.sig.returnType = (some .int)) (hnm : meth.name = yX8_opening.name) (htab : ∀ x ∈ c.exceptionTable.toList, False) {k4 : Int32 → Int32 → Int32 → Sg → Prop} (hk4 : ∀ {x1 : Int32} {x2 : Int32} {x3 : Int32} {S : Sg}, k4 x1 x2 x3 S → V X p l e R s m args below meth c 5 (QM X below args s S0 ad0 rvI Qa) S0 ad0 S 4 [(0, Value.ref (enc 12 0)), (1, Value.int x1), (2, Value.int x2), (3, Value.int x3)] []) {x1 : Int32} {x2 : Int32} {x3 : Int32} {S : Sg} (h : w_X8_opening_55 k4 Qa x1 x2 x3 S) : V X p l e R s m args below meth c 5 (QM X below args s S0 ad0 rvI Qa) S0 ad0 S 55 [(0, Value.ref (enc 12 0)), (1, Value.int x1), (2, Value.int x2), (3, Value.int x3)] [] := by
  refine V_iconst (pc := 55) C (v := 0) dX8_opening_55 rfl ?_
  refine V_sub [0, 1, 2, 3] rfl ?_
  exact k_X8_opening_56 hT hl C hr hnm htab (fun h => hk4 h) h
def w_X8_opening_51 (k4 : Int32 → Int32 → Int32 → Sg → Prop) (Q : Nat → Int32 → Sg → Prop) (x1 : Int32) (x2 : Int32) (x3 : Int32) (S : Sg) : Prop := w_X8_opening_56 k4 Q x1 x2 x3 1 S
theorem k_X8_opening_51 (hT : xT X = tb1) (hl : l.stackTraces = false) (C : Cn X k0 p l R s m meth c cX8_opening RX8 5 1 0) (hr : meth.sig.returnType = (some .int)) (hnm : meth.name = yX8_opening.name) (htab : ∀ x ∈ c.exceptionTable.toList, False) {k4 : Int32 → Int32 → Int32 → Sg → Prop} (hk4 : ∀ {x1 : Int32} {x2 : Int32} {x3 : Int32} {S : Sg}, k4 x1 x2 x3 S → V X p l e R s m args below meth c 5 (QM X below args s S0 ad0 rvI Qa) S0 ad0 S 4 [(0, Value.ref (enc 12 0)), (1, Value.int x1), (2, Value.int x2), (3, Value.int x3)] []) {x1 : Int32} {x2 : Int32} {x3 : Int32} {S : Sg} (h : w_X8_opening_51 k4 Qa x1 x2 x3 S) : V X p l e R s m args below meth c 5 (QM X below args s S0 ad0 rvI Qa) S0 ad0 S 51 [(0, Value.ref (enc 12 0)), (1, Value.int x1), (2, Value.int x2), (3, Value.int x3)] [] := by
  refine V_iconst (pc := 51) C (v := 1) dX8_opening_51 rfl ?_
  refine V_goto (pc := 52) (tgt := 56) C dX8_opening_52 (by decide) ?_
  refine V_sub [0, 1, 2, 3] rfl ?_
  exact k_X8_opening_56 hT hl C hr hnm htab (fun h => hk4 h) h
def w_X8_opening_4  (Q : Nat → Int32 → Sg → Prop) : Nat → Int32 → Int32 → Int32 → Sg → Prop
  | 0, _, _, _, _ => False
  | n + 1, x1, x2, x3, S => (((S.1 321 0) ≤ x3 → Q 0 x2 S) ∧ (¬ (S.1 321 0) ≤ x3 → (vp_in x3 30 ∧ (((S.1 122 (nt x3)) = x1 → (vp_in x3 30 ∧ (((S.1 125 (nt x3)) = 4 → w_X8_opening_55 (fun x1 x2 x3 S => w_X8_opening_4  Q n x1 x2 x3 S) Q x1 x2 x3 S) ∧ (¬ (S.1 125 (nt x3)) = 4 → ((x2 = (-1) → w_X8_opening_51 (fun x1 x2 x3 S => w_X8_opening_4  Q n x1 x2 x3 S) Q x1 x2 x3 S) ∧ (¬ x2 = (-1) → (vp_in x3 30 ∧ ((x2 ≤ ((S.1 124 (nt x3)) / 10080) → w_X8_opening_55 (fun x1 x2 x3 S => w_X8_opening_4  Q n x1 x2 x3 S) Q x1 x2 x3 S) ∧ (¬ x2 ≤ ((S.1 124 (nt x3)) / 10080) → w_X8_opening_51 (fun x1 x2 x3 S => w_X8_opening_4  Q n x1 x2 x3 S) Q x1 x2 x3 S))))))))) ∧ (¬ (S.1 122 (nt x3)) = x1 → w_X8_opening_55 (fun x1 x2 x3 S => w_X8_opening_4  Q n x1 x2 x3 S) Q x1 x2 x3 S)))))
theorem k_X8_opening_4 (hT : xT X = tb1) (hl : l.stackTraces = false) (C : Cn X k0 p l R s m meth c cX8_opening RX8 5 1 0) (hr : meth.sig.returnType = (some .int)) (hnm : meth.name = yX8_opening.name) (htab : ∀ x ∈ c.exceptionTable.toList, False)  : ∀ n {x1 : Int32} {x2 : Int32} {x3 : Int32} {S : Sg}, w_X8_opening_4  Qa n x1 x2 x3 S → V X p l e R s m args below meth c 5 (QM X below args s S0 ad0 rvI Qa) S0 ad0 S 4 [(0, Value.ref (enc 12 0)), (1, Value.int x1), (2, Value.int x2), (3, Value.int x3)] [] := by
  intro n
  induction n with
  | zero => intro x1 x2 x3 S h; exact h.elim
  | succ n ih =>
    intro x1 x2 x3 S h
    refine V_iload_n (pc := 4) C dX8_opening_4 rfl 3 rfl ?_
    refine V_aload_n (pc := 5) C dX8_opening_5 rfl 0 rfl ?_
    refine V_getI (pc := 6) C hT f1_X8_21 g999 dX8_opening_6 ?_
    refine V_icmp_ge (pc := 9) (tgt := 84) C dX8_opening_9 (by decide) h (fun h => ?_) (fun h => ?_)
    · refine V_iload_n (pc := 84) C dX8_opening_84 rfl 2 rfl ?_
      exact V_iret (pc := 85) C hr rfl h dX8_opening_85
    · refine V_aload_n (pc := 12) C dX8_opening_12 rfl 0 rfl ?_
      refine V_getF (pc := 13) C hT f1_X8_22 g1000 dX8_opening_13 ?_
      refine V_iload_n (pc := 16) C dX8_opening_16 rfl 3 rfl ?_
      refine V_mld (pc := 17) C hT tb1_arr (n := 30) (c9 := 122) rfl rfl rfl h dX8_opening_17 (fun h => ?_)
      refine V_iload_n (pc := 18) C dX8_opening_18 rfl 1 rfl ?_
      refine V_icmp_ne (pc := 19) (tgt := 55) C dX8_opening_19 (by decide) h (fun h => ?_) (fun h => ?_)
      · refine V_sub [0, 1, 2, 3] rfl ?_
        exact k_X8_opening_55 hT hl C hr hnm htab (fun h => ih h) h
      · refine V_aload_n (pc := 22) C dX8_opening_22 rfl 0 rfl ?_
        refine V_getF (pc := 23) C hT f1_X8_25 g1003 dX8_opening_23 ?_
        refine V_iload_n (pc := 26) C dX8_opening_26 rfl 3 rfl ?_
        refine V_mld (pc := 27) C hT tb1_arr (n := 30) (c9 := 125) rfl rfl rfl h dX8_opening_27 (fun h => ?_)
        refine V_iconst (pc := 28) C (v := 4) dX8_opening_28 rfl ?_
        refine V_icmp_eq (pc := 29) (tgt := 55) C dX8_opening_29 (by decide) h (fun h => ?_) (fun h => ?_)
        · refine V_sub [0, 1, 2, 3] rfl ?_
          exact k_X8_opening_55 hT hl C hr hnm htab (fun h => ih h) h
        · refine V_iload_n (pc := 32) C dX8_opening_32 rfl 2 rfl ?_
          refine V_iconst (pc := 33) C (v := (-1)) dX8_opening_33 rfl ?_
          refine V_icmp_eq (pc := 34) (tgt := 51) C dX8_opening_34 (by decide) h (fun h => ?_) (fun h => ?_)
          · refine V_sub [0, 1, 2, 3] rfl ?_
            exact k_X8_opening_51 hT hl C hr hnm htab (fun h => ih h) h
          · refine V_aload_n (pc := 37) C dX8_opening_37 rfl 0 rfl ?_
            refine V_getF (pc := 38) C hT f1_X8_24 g1002 dX8_opening_38 ?_
            refine V_iload_n (pc := 41) C dX8_opening_41 rfl 3 rfl ?_
            refine V_mld (pc := 42) C hT tb1_arr (n := 30) (c9 := 124) rfl rfl rfl h dX8_opening_42 (fun h => ?_)
            refine V_sipush (pc := 43) C (v := 10080) dX8_opening_43 rfl ?_
            refine V_idiv (pc := 46) C dX8_opening_46 (by decide) ?_
            refine V_iload_n (pc := 47) C dX8_opening_47 rfl 2 rfl ?_
            refine V_icmp_ge (pc := 48) (tgt := 55) C dX8_opening_48 (by decide) h (fun h => ?_) (fun h => ?_)
            · refine V_sub [0, 1, 2, 3] rfl ?_
              exact k_X8_opening_55 hT hl C hr hnm htab (fun h => ih h) h
            · refine V_sub [0, 1, 2, 3] rfl ?_
              exact k_X8_opening_51 hT hl C hr hnm htab (fun h => ih h) h
def w_X8_opening (a1 : Int32) (S : Sg) (Q : Nat → Int32 → Sg → Prop) : Prop := ∃ n9, w_X8_opening_4  Q n9 a1 (-1) 0 S
theorem ct_X8_opening (hT : xT X = tb1) (hl : l.stackTraces = false) {a1 : Int32} {S : Sg} (h : w_X8_opening a1 S Qa) : CT X k0 l yX8_opening cX8_opening 5 (some .int) 1 0 [Value.ref (enc 12 0), Value.int a1] rvI S Qa :=
  CT_ofV (own := RX8) (by decide +kernel) (le8 rfl) rfl hl fun p e R s m args below meth c ad0 C hr hnm htab => by
    refine V_iconst (pc := 0) C (v := (-1)) dX8_opening_0 rfl ?_
    refine V_istore_n (pc := 1) C dX8_opening_1 rfl (by decide) rfl ?_
    refine V_iconst (pc := 2) C (v := 0) dX8_opening_2 rfl ?_
    refine V_istore_n (pc := 3) C dX8_opening_3 rfl (by decide) rfl ?_
    refine V_sub [2, 3, 1, 0] rfl ?_
    obtain ⟨n9, h⟩ := h
    exact k_X8_opening_4 hT hl C hr hnm htab  n9 h
theorem pl_X8_takingsOf : (parseMethodDescriptor yX8_takingsOf.desc).map (fun d => d.parameters.length) = some 2 := by decide +kernel
def w_X8_takingsOf_66 (k12 : Int32 → Int32 → Int32 → Int32 → Int32 → Sg → Prop) (Q : Nat → Int32 → Sg → Prop) (x1 : Int32) (x2 : Int32) (x3 : Int32) (x5 : Int32) (y0 : Int32) (y1 : Int32) (S : Sg) : Prop := (∀ v1, v1 = y1 + y0 → k12 x1 x2 x3 v1 (x5 + 1) S)
theorem k_X8_takingsOf_66 (hT : xT X = tb1) (hl : l.stackTraces = false) (C : Cn X k0 p l R s m meth c cX8_takingsOf RX8 6 2 24) (hr : meth.sig.returnType = (some .int)) (hnm : meth.name = yX8_takingsOf.name) (htab : ∀ x ∈ c.exceptionTable.toList, False) {k12 : Int32 → Int32 → Int32 → Int32 → Int32 → Sg → Prop} (hk12 : ∀ {x1 : Int32} {x2 : Int32} {x3 : Int32} {x4 : Int32} {x5 : Int32} {S : Sg}, k12 x1 x2 x3 x4 x5 S → V X p l e R s m args below meth c 6 (QM X below args s S0 ad0 rvI Qa) S0 ad0 S 12 [(0, Value.ref (enc 12 0)), (1, Value.int x1), (2, Value.int x2), (3, Value.int x3), (4, Value.int x4), (5, Value.int x5)] []) {x1 : Int32} {x2 : Int32} {x3 : Int32} {x5 : Int32} {y0 : Int32} {y1 : Int32} {S : Sg} (h : w_X8_takingsOf_66 k12 Qa x1 x2 x3 x5 y0 y1 S) : V X p l e R s m args below meth c 6 (QM X below args s S0 ad0 rvI Qa) S0 ad0 S 66 [(0, Value.ref (enc 12 0)), (1, Value.int x1), (2, Value.int x2), (3, Value.int x3), (5, Value.int x5)] [Value.int y0, Value.int y1] := by
  refine V_iadd (pc := 66) C dX8_takingsOf_66 ?_
  refine V_nI fun v1 e9 => ?_
  replace h := h v1 e9; clear e9
  refine V_istore (pc := 67) C dX8_takingsOf_67 (by decide) rfl ?_
  refine V_iinc (pc := 69) C (a := 5) (v := x5 + 1) dX8_takingsOf_69 rfl rfl (by decide) rfl ?_
  refine V_goto (pc := 72) (tgt := 12) C dX8_takingsOf_72 (by decide) ?_
  refine V_sub [2, 3, 4, 5, 1, 0] rfl ?_
  exact hk12 h
def w_X8_takingsOf_65 (k12 : Int32 → Int32 → Int32 → Int32 → Int32 → Sg → Prop) (Q : Nat → Int32 → Sg → Prop) (x1 : Int32) (x2 : Int32) (x3 : Int32) (x5 : Int32) (y0 : Int32) (S : Sg) : Prop := w_X8_takingsOf_66 k12 Q x1 x2 x3 x5 0 y0 S
theorem k_X8_takingsOf_65 (hT : xT X = tb1) (hl : l.stackTraces = false) (C : Cn X k0 p l R s m meth c cX8_takingsOf RX8 6 2 24) (hr : meth.sig.returnType = (some .int)) (hnm : meth.name = yX8_takingsOf.name) (htab : ∀ x ∈ c.exceptionTable.toList, False) {k12 : Int32 → Int32 → Int32 → Int32 → Int32 → Sg → Prop} (hk12 : ∀ {x1 : Int32} {x2 : Int32} {x3 : Int32} {x4 : Int32} {x5 : Int32} {S : Sg}, k12 x1 x2 x3 x4 x5 S → V X p l e R s m args below meth c 6 (QM X below args s S0 ad0 rvI Qa) S0 ad0 S 12 [(0, Value.ref (enc 12 0)), (1, Value.int x1), (2, Value.int x2), (3, Value.int x3), (4, Value.int x4), (5, Value.int x5)] []) {x1 : Int32} {x2 : Int32} {x3 : Int32} {x5 : Int32} {y0 : Int32} {S : Sg} (h : w_X8_takingsOf_65 k12 Qa x1 x2 x3 x5 y0 S) : V X p l e R s m args below meth c 6 (QM X below args s S0 ad0 rvI Qa) S0 ad0 S 65 [(0, Value.ref (enc 12 0)), (1, Value.int x1), (2, Value.int x2), (3, Value.int x3), (5, Value.int x5)] [Value.int y0] := by
  refine V_iconst (pc := 65) C (v := 0) dX8_takingsOf_65 rfl ?_
  refine V_sub [0, 1, 2, 3, 4] rfl ?_
  exact k_X8_takingsOf_66 hT hl C hr hnm htab (fun h => hk12 h) h
def w_X8_takingsOf_12  (Q : Nat → Int32 → Sg → Prop) : Nat → Int32 → Int32 → Int32 → Int32 → Int32 → Sg → Prop
  | 0, _, _, _, _, _, _ => False
  | n + 1, x1, x2, x3, x4, x5, S => (((S.1 321 0) ≤ x5 → Q 0 x4 S) ∧ (¬ (S.1 321 0) ≤ x5 → ((x3 = (-1) → w_X8_takingsOf_65 (fun x1 x2 x3 x4 x5 S => w_X8_takingsOf_12  Q n x1 x2 x3 x4 x5 S) Q x1 x2 x3 x5 x4 S) ∧ (¬ x3 = (-1) → (vp_in x5 30 ∧ (((S.1 122 (nt x5)) = x1 → (vp_in x5 30 ∧ ((((S.1 124 (nt x5)) / 10080) = (x3 + x2) → (w_X8_paidFor x5 S (fun k4 v3 S2 => (k4 = 0 → w_X8_takingsOf_66 (fun x1 x2 x3 x4 x5 S => w_X8_takingsOf_12  Q n x1 x2 x3 x4 x5 S) Q x1 x2 x3 x5 v3 x4 S2) ∧ (¬ k4 = 0 → Q k4 0 S2)))) ∧ (¬ ((S.1 124 (nt x5)) / 10080) = (x3 + x2) → w_X8_takingsOf_65 (fun x1 x2 x3 x4 x5 S => w_X8_takingsOf_12  Q n x1 x2 x3 x4 x5 S) Q x1 x2 x3 x5 x4 S)))) ∧ (¬ (S.1 122 (nt x5)) = x1 → w_X8_takingsOf_65 (fun x1 x2 x3 x4 x5 S => w_X8_takingsOf_12  Q n x1 x2 x3 x4 x5 S) Q x1 x2 x3 x5 x4 S)))))))
theorem k_X8_takingsOf_12 (hT : xT X = tb1) (hl : l.stackTraces = false) (C : Cn X k0 p l R s m meth c cX8_takingsOf RX8 6 2 24) (hr : meth.sig.returnType = (some .int)) (hnm : meth.name = yX8_takingsOf.name) (htab : ∀ x ∈ c.exceptionTable.toList, False)  : ∀ n {x1 : Int32} {x2 : Int32} {x3 : Int32} {x4 : Int32} {x5 : Int32} {S : Sg}, w_X8_takingsOf_12  Qa n x1 x2 x3 x4 x5 S → V X p l e R s m args below meth c 6 (QM X below args s S0 ad0 rvI Qa) S0 ad0 S 12 [(0, Value.ref (enc 12 0)), (1, Value.int x1), (2, Value.int x2), (3, Value.int x3), (4, Value.int x4), (5, Value.int x5)] [] := by
  intro n
  induction n with
  | zero => intro x1 x2 x3 x4 x5 S h; exact h.elim
  | succ n ih =>
    intro x1 x2 x3 x4 x5 S h
    refine V_iload (pc := 12) C dX8_takingsOf_12 5 rfl ?_
    refine V_aload_n (pc := 14) C dX8_takingsOf_14 rfl 0 rfl ?_
    refine V_getI (pc := 15) C hT f1_X8_21 g999 dX8_takingsOf_15 ?_
    refine V_icmp_ge (pc := 18) (tgt := 75) C dX8_takingsOf_18 (by decide) h (fun h => ?_) (fun h => ?_)
    · refine V_iload (pc := 75) C dX8_takingsOf_75 4 rfl ?_
      exact V_iret (pc := 77) C hr rfl h dX8_takingsOf_77
    · refine V_iload (pc := 21) C dX8_takingsOf_21 4 rfl ?_
      refine V_iload_n (pc := 23) C dX8_takingsOf_23 rfl 3 rfl ?_
      refine V_iconst (pc := 24) C (v := (-1)) dX8_takingsOf_24 rfl ?_
      refine V_icmp_eq (pc := 25) (tgt := 65) C dX8_takingsOf_25 (by decide) h (fun h => ?_) (fun h => ?_)
      · refine V_sub [0, 1, 2, 3, 5] rfl ?_
        exact k_X8_takingsOf_65 hT hl C hr hnm htab (fun h => ih h) h
      · refine V_aload_n (pc := 28) C dX8_takingsOf_28 rfl 0 rfl ?_
        refine V_getF (pc := 29) C hT f1_X8_22 g1000 dX8_takingsOf_29 ?_
        refine V_iload (pc := 32) C dX8_takingsOf_32 5 rfl ?_
        refine V_mld (pc := 34) C hT tb1_arr (n := 30) (c9 := 122) rfl rfl rfl h dX8_takingsOf_34 (fun h => ?_)
        refine V_iload_n (pc := 35) C dX8_takingsOf_35 rfl 1 rfl ?_
        refine V_icmp_ne (pc := 36) (tgt := 65) C dX8_takingsOf_36 (by decide) h (fun h => ?_) (fun h => ?_)
        · refine V_sub [0, 1, 2, 3, 5] rfl ?_
          exact k_X8_takingsOf_65 hT hl C hr hnm htab (fun h => ih h) h
        · refine V_aload_n (pc := 39) C dX8_takingsOf_39 rfl 0 rfl ?_
          refine V_getF (pc := 40) C hT f1_X8_24 g1002 dX8_takingsOf_40 ?_
          refine V_iload (pc := 43) C dX8_takingsOf_43 5 rfl ?_
          refine V_mld (pc := 45) C hT tb1_arr (n := 30) (c9 := 124) rfl rfl rfl h dX8_takingsOf_45 (fun h => ?_)
          refine V_sipush (pc := 46) C (v := 10080) dX8_takingsOf_46 rfl ?_
          refine V_idiv (pc := 49) C dX8_takingsOf_49 (by decide) ?_
          refine V_iload_n (pc := 50) C dX8_takingsOf_50 rfl 3 rfl ?_
          refine V_iload_n (pc := 51) C dX8_takingsOf_51 rfl 2 rfl ?_
          refine V_iadd (pc := 52) C dX8_takingsOf_52 ?_
          refine V_icmp_ne (pc := 53) (tgt := 65) C dX8_takingsOf_53 (by decide) h (fun h => ?_) (fun h => ?_)
          · refine V_sub [0, 1, 2, 3, 5] rfl ?_
            exact k_X8_takingsOf_65 hT hl C hr hnm htab (fun h => ih h) h
          · refine V_aload_n (pc := 56) C dX8_takingsOf_56 rfl 0 rfl ?_
            refine V_iload (pc := 57) C dX8_takingsOf_57 5 rfl ?_
            refine V_callV (pc := 59) C (ct_X8_paidFor hT hl h) g1297 g1299 g54 g1300 g64 ⟨by decide, by decide, pl_X8_paidFor⟩ (enc_ne63 (by decide)) (ct_obj hT rfl (by decide)) rfl ⟨by decide, by decide⟩ (rest := [Value.int x4]) rfl (le8 rfl) dX8_takingsOf_59 (fun v3 S2 h => ?_) (fun k9 S9 hk h => VX_out C htab hk (h.2 (by omega)))
            replace h := h.1 rfl
            refine V_st (st' := [Value.int v3, Value.int x4]) rfl ?_
            refine V_goto (pc := 62) (tgt := 66) C dX8_takingsOf_62 (by decide) ?_
            refine V_sub [0, 1, 2, 3, 5] rfl ?_
            exact k_X8_takingsOf_66 hT hl C hr hnm htab (fun h => ih h) h
def w_X8_takingsOf (a1 : Int32) (a2 : Int32) (S : Sg) (Q : Nat → Int32 → Sg → Prop) : Prop := (w_X8_opening a1 S (fun k7 v6 S5 => (k7 = 0 → ∃ n9, w_X8_takingsOf_12  Q n9 a1 a2 v6 0 0 S5) ∧ (¬ k7 = 0 → Q k7 0 S5)))
theorem ct_X8_takingsOf (hT : xT X = tb1) (hl : l.stackTraces = false) {a1 : Int32} {a2 : Int32} {S : Sg} (h : w_X8_takingsOf a1 a2 S Qa) : CT X k0 l yX8_takingsOf cX8_takingsOf 6 (some .int) 2 24 [Value.ref (enc 12 0), Value.int a1, Value.int a2] rvI S Qa :=
  CT_ofV (own := RX8) (by decide +kernel) (le8 rfl) rfl hl fun p e R s m args below meth c ad0 C hr hnm htab => by
    refine V_aload_n (pc := 0) C dX8_takingsOf_0 rfl 0 rfl ?_
    refine V_iload_n (pc := 1) C dX8_takingsOf_1 rfl 1 rfl ?_
    refine V_callV (pc := 2) C (ct_X8_opening hT hl h) g1325 g1327 g58 g1328 g64 ⟨by decide, by decide, pl_X8_opening⟩ (enc_ne63 (by decide)) (ct_obj hT rfl (by decide)) rfl ⟨by decide, by decide⟩ (rest := []) rfl (le8 rfl) dX8_takingsOf_2 (fun v6 S5 h => ?_) (fun k9 S9 hk h => VX_out C htab hk (h.2 (by omega)))
    replace h := h.1 rfl
    refine V_st (st' := [Value.int v6]) rfl ?_
    refine V_istore_n (pc := 5) C dX8_takingsOf_5 rfl (by decide) rfl ?_
    refine V_iconst (pc := 6) C (v := 0) dX8_takingsOf_6 rfl ?_
    refine V_istore (pc := 7) C dX8_takingsOf_7 (by decide) rfl ?_
    refine V_iconst (pc := 9) C (v := 0) dX8_takingsOf_9 rfl ?_
    refine V_istore (pc := 10) C dX8_takingsOf_10 (by decide) rfl ?_
    refine V_sub [3, 4, 5, 2, 1, 0] rfl ?_
    obtain ⟨n9, h⟩ := h
    exact k_X8_takingsOf_12 hT hl C hr hnm htab  n9 h
theorem pl_X8_missesWeek : (parseMethodDescriptor yX8_missesWeek.desc).map (fun d => d.parameters.length) = some 2 := by decide +kernel
def w_X8_missesWeek_28  (Q : Nat → Int32 → Sg → Prop) (y0 : Int32) (S : Sg) : Prop := (w_X8_fails y0 S (fun k3 v2 S1 => (k3 = 0 → ((v2 = 0 ∨ v2 = 1) ∧ Q 0 v2 S1)) ∧ (¬ k3 = 0 → Q k3 0 S1)))
theorem k_X8_missesWeek_28 (hT : xT X = tb1) (hl : l.stackTraces = false) (C : Cn X k0 p l R s m meth c cX8_missesWeek RX8 3 3 43) (hr : meth.sig.returnType = (some .boolean)) (hnm : meth.name = yX8_missesWeek.name) (htab : ∀ x ∈ c.exceptionTable.toList, False)  {y0 : Int32} {S : Sg} (h : w_X8_missesWeek_28  Qa y0 S) : V X p l e R s m args below meth c 3 (QM X below args s S0 ad0 rvI Qa) S0 ad0 S 28 [] [Value.int y0, Value.ref (enc 12 0)] := by
  refine V_callV (pc := 28) C (ct_X8_fails hT hl h) g1120 g1122 g32 g1123 g64 ⟨by decide, by decide, pl_X8_fails⟩ (enc_ne63 (by decide)) (ct_obj hT rfl (by decide)) rfl ⟨by decide, by decide⟩ (rest := []) rfl (le8 rfl) dX8_missesWeek_28 (fun v2 S1 h => ?_) (fun k9 S9 hk h => VX_out C htab hk (h.2 (by omega)))
  replace h := h.1 rfl
  refine V_st (st' := [Value.int v2]) rfl ?_
  exact V_zret (pc := 31) C hr h.1 rfl h.2 dX8_missesWeek_31
def w_X8_missesWeek (a1 : Int32) (a2 : Int32) (S : Sg) (Q : Nat → Int32 → Sg → Prop) : Prop := (w_X8_isFilm a1 S (fun k6 v5 S4 => (k6 = 0 → ((v5 = 0 → w_X8_missesWeek_28  Q 1 S4) ∧ (¬ v5 = 0 → (w_X8_isIn a2 0 9 S4 (fun k9 v8 S7 => (k9 = 0 → ((v8 = 0 → w_X8_missesWeek_28  Q 2 S7) ∧ (¬ v8 = 0 → w_X8_missesWeek_28  Q 0 S7))) ∧ (¬ k9 = 0 → Q k9 0 S7)))))) ∧ (¬ k6 = 0 → Q k6 0 S4)))
theorem ct_X8_missesWeek (hT : xT X = tb1) (hl : l.stackTraces = false) {a1 : Int32} {a2 : Int32} {S : Sg} (h : w_X8_missesWeek a1 a2 S Qa) : CT X k0 l yX8_missesWeek cX8_missesWeek 3 (some .boolean) 3 43 [Value.ref (enc 12 0), Value.int a1, Value.int a2] rvI S Qa :=
  CT_ofV (own := RX8) (by decide +kernel) (le8 rfl) rfl hl fun p e R s m args below meth c ad0 C hr hnm htab => by
    refine V_aload_n (pc := 0) C dX8_missesWeek_0 rfl 0 rfl ?_
    refine V_aload_n (pc := 1) C dX8_missesWeek_1 rfl 0 rfl ?_
    refine V_iload_n (pc := 2) C dX8_missesWeek_2 rfl 1 rfl ?_
    refine V_callV (pc := 3) C (ct_X8_isFilm hT hl h) g1141 g1143 g34 g1144 g64 ⟨by decide, by decide, pl_X8_isFilm⟩ (enc_ne63 (by decide)) (ct_obj hT rfl (by decide)) rfl ⟨by decide, by decide⟩ (rest := [Value.ref (enc 12 0)]) rfl (le8 rfl) dX8_missesWeek_3 (fun v5 S4 h => ?_) (fun k9 S9 hk h => VX_out C htab hk (h.2 (by omega)))
    replace h := h.1 rfl
    refine V_st (st' := [Value.int v5, Value.ref (enc 12 0)]) rfl ?_
    refine V_if_ne (pc := 6) (tgt := 13) C dX8_missesWeek_6 (by decide) h (fun h => ?_) (fun h => ?_)
    · refine V_iload_n (pc := 13) C dX8_missesWeek_13 rfl 2 rfl ?_
      refine V_iconst (pc := 14) C (v := 0) dX8_missesWeek_14 rfl ?_
      refine V_bipush (pc := 15) C (v := 9) dX8_missesWeek_15 rfl ?_
      refine V_callS (pc := 17) C (ct_X8_isIn hT hl h) g1117 g1118 g1119 g64 ⟨by decide, by decide, pl_X8_isIn⟩ ⟨by decide, by decide⟩ (rest := [Value.ref (enc 12 0)]) rfl (le8 rfl) dX8_missesWeek_17 (fun v8 S7 h => ?_) (fun k9 S9 hk h => VX_out C htab hk (h.2 (by omega)))
      replace h := h.1 rfl
      refine V_st (st' := [Value.int v8, Value.ref (enc 12 0)]) rfl ?_
      refine V_if_eq (pc := 20) (tgt := 27) C dX8_missesWeek_20 (by decide) h (fun h => ?_) (fun h => ?_)
      · refine V_iconst (pc := 27) C (v := 2) dX8_missesWeek_27 rfl ?_
        refine V_sub [] rfl ?_
        exact k_X8_missesWeek_28 hT hl C hr hnm htab  h
      · refine V_iconst (pc := 23) C (v := 0) dX8_missesWeek_23 rfl ?_
        refine V_goto (pc := 24) (tgt := 28) C dX8_missesWeek_24 (by decide) ?_
        refine V_sub [] rfl ?_
        exact k_X8_missesWeek_28 hT hl C hr hnm htab  h
    · refine V_iconst (pc := 9) C (v := 1) dX8_missesWeek_9 rfl ?_
      refine V_goto (pc := 10) (tgt := 28) C dX8_missesWeek_10 (by decide) ?_
      refine V_sub [] rfl ?_
      exact k_X8_missesWeek_28 hT hl C hr hnm htab  h
theorem pl_X8_takings : (parseMethodDescriptor yX8_takings.desc).map (fun d => d.parameters.length) = some 2 := by decide +kernel
def w_X8_takings (a1 : Int32) (a2 : Int32) (S : Sg) (Q : Nat → Int32 → Sg → Prop) : Prop := (w_X8_missesWeek a1 a2 S (fun k3 v2 S1 => (k3 = 0 → ((v2 = 0 → (w_X8_takingsOf a1 a2 S1 (fun k6 v5 S4 => (k6 = 0 → Q 0 v5 S4) ∧ (¬ k6 = 0 → Q k6 0 S4)))) ∧ (¬ v2 = 0 → Q 0 0 S1))) ∧ (¬ k3 = 0 → Q k3 0 S1)))
theorem ct_X8_takings (hT : xT X = tb1) (hl : l.stackTraces = false) {a1 : Int32} {a2 : Int32} {S : Sg} (h : w_X8_takings a1 a2 S Qa) : CT X k0 l yX8_takings cX8_takings 3 (some .int) 4 65 [Value.ref (enc 12 0), Value.int a1, Value.int a2] rvI S Qa :=
  CT_ofV (own := RX8) (by decide +kernel) (le8 rfl) rfl hl fun p e R s m args below meth c ad0 C hr hnm htab => by
    refine V_aload_n (pc := 0) C dX8_takings_0 rfl 0 rfl ?_
    refine V_iload_n (pc := 1) C dX8_takings_1 rfl 1 rfl ?_
    refine V_iload_n (pc := 2) C dX8_takings_2 rfl 2 rfl ?_
    refine V_callV (pc := 3) C (ct_X8_missesWeek hT hl h) g1317 g1319 g56 g1320 g64 ⟨by decide, by decide, pl_X8_missesWeek⟩ (enc_ne63 (by decide)) (ct_obj hT rfl (by decide)) rfl ⟨by decide, by decide⟩ (rest := []) rfl (le8 rfl) dX8_takings_3 (fun v2 S1 h => ?_) (fun k9 S9 hk h => VX_out C htab hk (h.2 (by omega)))
    replace h := h.1 rfl
    refine V_st (st' := [Value.int v2]) rfl ?_
    refine V_if_eq (pc := 6) (tgt := 13) C dX8_takings_6 (by decide) h (fun h => ?_) (fun h => ?_)
    · refine V_aload_n (pc := 13) C dX8_takings_13 rfl 0 rfl ?_
      refine V_iload_n (pc := 14) C dX8_takings_14 rfl 1 rfl ?_
      refine V_iload_n (pc := 15) C dX8_takings_15 rfl 2 rfl ?_
      refine V_callV (pc := 16) C (ct_X8_takingsOf hT hl h) g1321 g1323 g57 g1324 g64 ⟨by decide, by decide, pl_X8_takingsOf⟩ (enc_ne63 (by decide)) (ct_obj hT rfl (by decide)) rfl ⟨by decide, by decide⟩ (rest := []) rfl (le8 rfl) dX8_takings_16 (fun v5 S4 h => ?_) (fun k9 S9 hk h => VX_out C htab hk (h.2 (by omega)))
      replace h := h.1 rfl
      refine V_st (st' := [Value.int v5]) rfl ?_
      exact V_iret (pc := 19) C hr rfl h dX8_takings_19
    · refine V_iconst (pc := 9) C (v := 0) dX8_takings_9 rfl ?_
      refine V_goto (pc := 10) (tgt := 19) C dX8_takings_10 (by decide) ?_
      exact V_iret (pc := 19) C hr rfl h dX8_takings_19
theorem pl_X8_takingsAnew : (parseMethodDescriptor yX8_takingsAnew.desc).map (fun d => d.parameters.length) = some 2 := by decide +kernel
def w_X8_takingsAnew (a1 : Int32) (a2 : Int32) (S : Sg) (Q : Nat → Int32 → Sg → Prop) : Prop := (w_X8_takings a1 a2 S (fun k3 v2 S1 => (k3 = 0 → Q 0 v2 S1) ∧ (¬ k3 = 0 → Q k3 0 S1)))
theorem ct_X8_takingsAnew (hT : xT X = tb1) (hl : l.stackTraces = false) {a1 : Int32} {a2 : Int32} {S : Sg} (h : w_X8_takingsAnew a1 a2 S Qa) : CT X k0 l yX8_takingsAnew cX8_takingsAnew 3 (some .int) 5 87 [Value.ref (enc 12 0), Value.int a1, Value.int a2] rvI S Qa :=
  CT_ofV (own := RX8) (by decide +kernel) (le8 rfl) rfl hl fun p e R s m args below meth c ad0 C hr hnm htab => by
    refine V_aload_n (pc := 0) C dX8_takingsAnew_0 rfl 0 rfl ?_
    refine V_iload_n (pc := 1) C dX8_takingsAnew_1 rfl 1 rfl ?_
    refine V_iload_n (pc := 2) C dX8_takingsAnew_2 rfl 2 rfl ?_
    refine V_callV (pc := 3) C (ct_X8_takings hT hl h) g1333 g1314 g1315 g1316 g64 ⟨by decide, by decide, pl_X8_takings⟩ (enc_ne63 (by decide)) (ct_obj hT rfl (by decide)) rfl ⟨by decide, by decide⟩ (rest := []) rfl (le8 rfl) dX8_takingsAnew_3 (fun v2 S1 h => ?_) (fun k9 S9 hk h => VX_out C htab hk (h.2 (by omega)))
    replace h := h.1 rfl
    refine V_st (st' := [Value.int v2]) rfl ?_
    exact V_iret (pc := 6) C hr rfl h dX8_takingsAnew_6
theorem pl_X8_share : (parseMethodDescriptor yX8_share.desc).map (fun d => d.parameters.length) = some 2 := by decide +kernel
def w_X8_share_81  (Q : Nat → Int32 → Sg → Prop) (x1 : Int32) (x3 : Int32) (x4 : Int32) (y0 : Int32) (S : Sg) : Prop := (∀ v1, v1 = ((x4.toInt64 * y0.toInt64) / 100).toInt32 → (vp_in x1 8 ∧ (∀ v2, v2 = ((((S.1 113 (nt x1)).toInt64) * x3.toInt64) / 100).toInt32 → ((v1 ≤ v2 → Q 0 v2 S) ∧ (¬ v1 ≤ v2 → Q 0 v1 S)))))
theorem k_X8_share_81 (hT : xT X = tb1) (hl : l.stackTraces = false) (C : Cn X k0 p l R s m meth c cX8_share RX8 8 4 65) (hr : meth.sig.returnType = (some .int)) (hnm : meth.name = yX8_share.name) (htab : ∀ x ∈ c.exceptionTable.toList, False)  {x1 : Int32} {x3 : Int32} {x4 : Int32} {y0 : Int32} {S : Sg} (h : w_X8_share_81  Qa x1 x3 x4 y0 S) : V X p l e R s m args below meth c 8 (QM X below args s S0 ad0 rvI Qa) S0 ad0 S 81 [(0, Value.ref (enc 12 0)), (1, Value.int x1), (3, Value.int x3), (4, Value.int x4)] [Value.int y0] := by
  refine V_istore (pc := 81) C dX8_share_81 (by decide) rfl ?_
  refine V_iload (pc := 83) C dX8_share_83 4 rfl ?_
  refine V_i2l (pc := 85) C dX8_share_85 ?_
  refine V_iload (pc := 86) C dX8_share_86 0 rfl ?_
  refine V_i2l (pc := 88) C dX8_share_88 ?_
  refine V_lmul (pc := 89) C dX8_share_89 ?_
  refine V_ldc2 (pc := 90) C g1338 dX8_share_90 ?_
  refine V_ldiv (pc := 93) C dX8_share_93 (by decide) ?_
  refine V_l2i (pc := 94) C dX8_share_94 ?_
  refine V_nI fun v1 e9 => ?_
  replace h := h v1 e9; clear e9
  refine V_istore (pc := 95) C dX8_share_95 (by decide) rfl ?_
  refine V_aload_n (pc := 97) C dX8_share_97 rfl 2 rfl ?_
  refine V_getF (pc := 98) C hT f1_X8_13 g991 dX8_share_98 ?_
  refine V_iload_n (pc := 101) C dX8_share_101 rfl 3 rfl ?_
  refine V_mld (pc := 102) C hT tb1_arr (n := 8) (c9 := 113) rfl rfl rfl h dX8_share_102 (fun h => ?_)
  refine V_i2l (pc := 103) C dX8_share_103 ?_
  refine V_iload_n (pc := 104) C dX8_share_104 rfl 4 rfl ?_
  refine V_i2l (pc := 105) C dX8_share_105 ?_
  refine V_lmul (pc := 106) C dX8_share_106 ?_
  refine V_ldc2 (pc := 107) C g1338 dX8_share_107 ?_
  refine V_ldiv (pc := 110) C dX8_share_110 (by decide) ?_
  refine V_l2i (pc := 111) C dX8_share_111 ?_
  refine V_nI fun v2 e9 => ?_
  replace h := h v2 e9; clear e9
  refine V_istore (pc := 112) C dX8_share_112 (by decide) rfl ?_
  refine V_iload (pc := 114) C dX8_share_114 1 rfl ?_
  refine V_iload (pc := 116) C dX8_share_116 0 rfl ?_
  refine V_icmp_le (pc := 118) (tgt := 126) C dX8_share_118 (by decide) h (fun h => ?_) (fun h => ?_)
  · refine V_iload (pc := 126) C dX8_share_126 0 rfl ?_
    exact V_iret (pc := 128) C hr rfl h dX8_share_128
  · refine V_iload (pc := 121) C dX8_share_121 1 rfl ?_
    refine V_goto (pc := 123) (tgt := 128) C dX8_share_123 (by decide) ?_
    exact V_iret (pc := 128) C hr rfl h dX8_share_128
def w_X8_share_57  (Q : Nat → Int32 → Sg → Prop) (x1 : Int32) (x3 : Int32) (y0 : Int32) (S : Sg) : Prop := (vp_in x1 8 ∧ ((x3 ≤ (S.1 114 (nt x1)) → w_X8_share_81  Q x1 x3 y0 0 S) ∧ (¬ x3 ≤ (S.1 114 (nt x1)) → (vp_in x1 8 ∧ w_X8_share_81  Q x1 x3 y0 (x3 - (S.1 114 (nt x1))) S))))
theorem k_X8_share_57 (hT : xT X = tb1) (hl : l.stackTraces = false) (C : Cn X k0 p l R s m meth c cX8_share RX8 8 4 65) (hr : meth.sig.returnType = (some .int)) (hnm : meth.name = yX8_share.name) (htab : ∀ x ∈ c.exceptionTable.toList, False)  {x1 : Int32} {x3 : Int32} {y0 : Int32} {S : Sg} (h : w_X8_share_57  Qa x1 x3 y0 S) : V X p l e R s m args below meth c 8 (QM X below args s S0 ad0 rvI Qa) S0 ad0 S 57 [(0, Value.ref (enc 12 0)), (1, Value.int x1), (3, Value.int x3)] [Value.int y0] := by
  refine V_istore (pc := 57) C dX8_share_57 (by decide) rfl ?_
  refine V_iload_n (pc := 59) C dX8_share_59 rfl 3 rfl ?_
  refine V_aload_n (pc := 60) C dX8_share_60 rfl 1 rfl ?_
  refine V_getF (pc := 61) C hT f1_X8_14 g992 dX8_share_61 ?_
  refine V_iload_n (pc := 64) C dX8_share_64 rfl 2 rfl ?_
  refine V_mld (pc := 65) C hT tb1_arr (n := 8) (c9 := 114) rfl rfl rfl h dX8_share_65 (fun h => ?_)
  refine V_icmp_le (pc := 66) (tgt := 80) C dX8_share_66 (by decide) h (fun h => ?_) (fun h => ?_)
  · refine V_iconst (pc := 80) C (v := 0) dX8_share_80 rfl ?_
    refine V_sub [1, 2, 3, 0] rfl ?_
    exact k_X8_share_81 hT hl C hr hnm htab  h
  · refine V_iload_n (pc := 69) C dX8_share_69 rfl 3 rfl ?_
    refine V_aload_n (pc := 70) C dX8_share_70 rfl 1 rfl ?_
    refine V_getF (pc := 71) C hT f1_X8_14 g992 dX8_share_71 ?_
    refine V_iload_n (pc := 74) C dX8_share_74 rfl 2 rfl ?_
    refine V_mld (pc := 75) C hT tb1_arr (n := 8) (c9 := 114) rfl rfl rfl h dX8_share_75 (fun h => ?_)
    refine V_isub (pc := 76) C dX8_share_76 ?_
    refine V_goto (pc := 77) (tgt := 81) C dX8_share_77 (by decide) ?_
    refine V_sub [1, 2, 3, 0] rfl ?_
    exact k_X8_share_81 hT hl C hr hnm htab  h
def w_X8_share (a1 : Int32) (a2 : Int32) (S : Sg) (Q : Nat → Int32 → Sg → Prop) : Prop := (w_X8_missesWeek a1 a2 S (fun k5 v4 S3 => (k5 = 0 → ((v4 = 0 → (w_X8_takingsOf a1 a2 S3 (fun k8 v7 S6 => (k8 = 0 → (vp_in a1 8 ∧ (vp_in a1 8 ∧ (∀ v9, v9 = (S6.1 111 (nt a1)) - (a2 * (S6.1 112 (nt a1))) → (vp_in a1 8 ∧ (((S6.1 113 (nt a1)) ≤ v9 → w_X8_share_57  Q a1 v7 v9 S6) ∧ (¬ (S6.1 113 (nt a1)) ≤ v9 → (vp_in a1 8 ∧ w_X8_share_57  Q a1 v7 (S6.1 113 (nt a1)) S6)))))))) ∧ (¬ k8 = 0 → Q k8 0 S6)))) ∧ (¬ v4 = 0 → Q 0 0 S3))) ∧ (¬ k5 = 0 → Q k5 0 S3)))
theorem ct_X8_share (hT : xT X = tb1) (hl : l.stackTraces = false) {a1 : Int32} {a2 : Int32} {S : Sg} (h : w_X8_share a1 a2 S Qa) : CT X k0 l yX8_share cX8_share 8 (some .int) 4 65 [Value.ref (enc 12 0), Value.int a1, Value.int a2] rvI S Qa :=
  CT_ofV (own := RX8) (by decide +kernel) (le8 rfl) rfl hl fun p e R s m args below meth c ad0 C hr hnm htab => by
    refine V_aload_n (pc := 0) C dX8_share_0 rfl 0 rfl ?_
    refine V_iload_n (pc := 1) C dX8_share_1 rfl 1 rfl ?_
    refine V_iload_n (pc := 2) C dX8_share_2 rfl 2 rfl ?_
    refine V_callV (pc := 3) C (ct_X8_missesWeek hT hl h) g1317 g1319 g56 g1320 g64 ⟨by decide, by decide, pl_X8_missesWeek⟩ (enc_ne63 (by decide)) (ct_obj hT rfl (by decide)) rfl ⟨by decide, by decide⟩ (rest := []) rfl (le8 rfl) dX8_share_3 (fun v4 S3 h => ?_) (fun k9 S9 hk h => VX_out C htab hk (h.2 (by omega)))
    replace h := h.1 rfl
    refine V_st (st' := [Value.int v4]) rfl ?_
    refine V_if_eq (pc := 6) (tgt := 11) C dX8_share_6 (by decide) h (fun h => ?_) (fun h => ?_)
    · refine V_aload_n (pc := 11) C dX8_share_11 rfl 0 rfl ?_
      refine V_iload_n (pc := 12) C dX8_share_12 rfl 1 rfl ?_
      refine V_iload_n (pc := 13) C dX8_share_13 rfl 2 rfl ?_
      refine V_callV (pc := 14) C (ct_X8_takingsOf hT hl h) g1321 g1323 g57 g1324 g64 ⟨by decide, by decide, pl_X8_takingsOf⟩ (enc_ne63 (by decide)) (ct_obj hT rfl (by decide)) rfl ⟨by decide, by decide⟩ (rest := []) rfl (le8 rfl) dX8_share_14 (fun v7 S6 h => ?_) (fun k9 S9 hk h => VX_out C htab hk (h.2 (by omega)))
      replace h := h.1 rfl
      refine V_st (st' := [Value.int v7]) rfl ?_
      refine V_istore_n (pc := 17) C dX8_share_17 rfl (by decide) rfl ?_
      refine V_aload_n (pc := 18) C dX8_share_18 rfl 1 rfl ?_
      refine V_getF (pc := 19) C hT f1_X8_11 g989 dX8_share_19 ?_
      refine V_iload_n (pc := 22) C dX8_share_22 rfl 2 rfl ?_
      refine V_mld (pc := 23) C hT tb1_arr (n := 8) (c9 := 111) rfl rfl rfl h dX8_share_23 (fun h => ?_)
      refine V_iload_n (pc := 24) C dX8_share_24 rfl 3 rfl ?_
      refine V_aload_n (pc := 25) C dX8_share_25 rfl 1 rfl ?_
      refine V_getF (pc := 26) C hT f1_X8_12 g990 dX8_share_26 ?_
      refine V_iload_n (pc := 29) C dX8_share_29 rfl 2 rfl ?_
      refine V_mld (pc := 30) C hT tb1_arr (n := 8) (c9 := 112) rfl rfl rfl h dX8_share_30 (fun h => ?_)
      refine V_imul (pc := 31) C dX8_share_31 ?_
      refine V_isub (pc := 32) C dX8_share_32 ?_
      refine V_nI fun v9 e9 => ?_
      replace h := h v9 e9; clear e9
      refine V_istore (pc := 33) C dX8_share_33 (by decide) rfl ?_
      refine V_iload (pc := 35) C dX8_share_35 0 rfl ?_
      refine V_aload_n (pc := 37) C dX8_share_37 rfl 2 rfl ?_
      refine V_getF (pc := 38) C hT f1_X8_13 g991 dX8_share_38 ?_
      refine V_iload_n (pc := 41) C dX8_share_41 rfl 3 rfl ?_
      refine V_mld (pc := 42) C hT tb1_arr (n := 8) (c9 := 113) rfl rfl rfl h dX8_share_42 (fun h => ?_)
      refine V_icmp_ge (pc := 43) (tgt := 55) C dX8_share_43 (by decide) h (fun h => ?_) (fun h => ?_)
      · refine V_iload (pc := 55) C dX8_share_55 0 rfl ?_
        refine V_sub [2, 3, 1] rfl ?_
        exact k_X8_share_57 hT hl C hr hnm htab  h
      · refine V_aload_n (pc := 46) C dX8_share_46 rfl 2 rfl ?_
        refine V_getF (pc := 47) C hT f1_X8_13 g991 dX8_share_47 ?_
        refine V_iload_n (pc := 50) C dX8_share_50 rfl 3 rfl ?_
        refine V_mld (pc := 51) C hT tb1_arr (n := 8) (c9 := 113) rfl rfl rfl h dX8_share_51 (fun h => ?_)
        refine V_goto (pc := 52) (tgt := 57) C dX8_share_52 (by decide) ?_
        refine V_sub [2, 3, 1] rfl ?_
        exact k_X8_share_57 hT hl C hr hnm htab  h
    · refine V_iconst (pc := 9) C (v := 0) dX8_share_9 rfl ?_
      exact V_iret (pc := 10) C hr rfl h dX8_share_10
theorem pl_X8_mustStay : (parseMethodDescriptor yX8_mustStay.desc).map (fun d => d.parameters.length) = some 2 := by decide +kernel
def w_X8_mustStay (a1 : Int32) (a2 : Int32) (S : Sg) (Q : Nat → Int32 → Sg → Prop) : Prop := (w_X8_missesWeek a1 a2 S (fun k3 v2 S1 => (k3 = 0 → ((v2 = 0 → (w_X8_opening a1 S1 (fun k6 v5 S4 => (k6 = 0 → ((v5 = (-1) → Q 0 0 S4) ∧ (¬ v5 = (-1) → (w_X8_takingsOf a1 a2 S4 (fun k9 v8 S7 => (k9 = 0 → (vp_in a1 8 ∧ ((v8 < (S7.1 115 (nt a1)) → Q 0 0 S7) ∧ (¬ v8 < (S7.1 115 (nt a1)) → Q 0 1 S7)))) ∧ (¬ k9 = 0 → Q k9 0 S7)))))) ∧ (¬ k6 = 0 → Q k6 0 S4)))) ∧ (¬ v2 = 0 → Q 0 0 S1))) ∧ (¬ k3 = 0 → Q k3 0 S1)))
theorem ct_X8_mustStay (hT : xT X = tb1) (hl : l.stackTraces = false) {a1 : Int32} {a2 : Int32} {S : Sg} (h : w_X8_mustStay a1 a2 S Qa) : CT X k0 l yX8_mustStay cX8_mustStay 3 (some .boolean) 4 65 [Value.ref (enc 12 0), Value.int a1, Value.int a2] rvI S Qa :=
  CT_ofV (own := RX8) (by decide +kernel) (le8 rfl) rfl hl fun p e R s m args below meth c ad0 C hr hnm htab => by
    refine V_aload_n (pc := 0) C dX8_mustStay_0 rfl 0 rfl ?_
    refine V_iload_n (pc := 1) C dX8_mustStay_1 rfl 1 rfl ?_
    refine V_iload_n (pc := 2) C dX8_mustStay_2 rfl 2 rfl ?_
    refine V_callV (pc := 3) C (ct_X8_missesWeek hT hl h) g1317 g1319 g56 g1320 g64 ⟨by decide, by decide, pl_X8_missesWeek⟩ (enc_ne63 (by decide)) (ct_obj hT rfl (by decide)) rfl ⟨by decide, by decide⟩ (rest := []) rfl (le8 rfl) dX8_mustStay_3 (fun v2 S1 h => ?_) (fun k9 S9 hk h => VX_out C htab hk (h.2 (by omega)))
    replace h := h.1 rfl
    refine V_st (st' := [Value.int v2]) rfl ?_
    refine V_if_ne (pc := 6) (tgt := 37) C dX8_mustStay_6 (by decide) h (fun h => ?_) (fun h => ?_)
    · refine V_iconst (pc := 37) C (v := 0) dX8_mustStay_37 rfl ?_
      exact V_zret (pc := 38) C hr (by decide) rfl h dX8_mustStay_38
    · refine V_aload_n (pc := 9) C dX8_mustStay_9 rfl 0 rfl ?_
      refine V_iload_n (pc := 10) C dX8_mustStay_10 rfl 1 rfl ?_
      refine V_callV (pc := 11) C (ct_X8_opening hT hl h) g1325 g1327 g58 g1328 g64 ⟨by decide, by decide, pl_X8_opening⟩ (enc_ne63 (by decide)) (ct_obj hT rfl (by decide)) rfl ⟨by decide, by decide⟩ (rest := []) rfl (le8 rfl) dX8_mustStay_11 (fun v5 S4 h => ?_) (fun k9 S9 hk h => VX_out C htab hk (h.2 (by omega)))
      replace h := h.1 rfl
      refine V_st (st' := [Value.int v5]) rfl ?_
      refine V_iconst (pc := 14) C (v := (-1)) dX8_mustStay_14 rfl ?_
      refine V_icmp_eq (pc := 15) (tgt := 37) C dX8_mustStay_15 (by decide) h (fun h => ?_) (fun h => ?_)
      · refine V_iconst (pc := 37) C (v := 0) dX8_mustStay_37 rfl ?_
        exact V_zret (pc := 38) C hr (by decide) rfl h dX8_mustStay_38
      · refine V_aload_n (pc := 18) C dX8_mustStay_18 rfl 0 rfl ?_
        refine V_iload_n (pc := 19) C dX8_mustStay_19 rfl 1 rfl ?_
        refine V_iload_n (pc := 20) C dX8_mustStay_20 rfl 2 rfl ?_
        refine V_callV (pc := 21) C (ct_X8_takingsOf hT hl h) g1321 g1323 g57 g1324 g64 ⟨by decide, by decide, pl_X8_takingsOf⟩ (enc_ne63 (by decide)) (ct_obj hT rfl (by decide)) rfl ⟨by decide, by decide⟩ (rest := []) rfl (le8 rfl) dX8_mustStay_21 (fun v8 S7 h => ?_) (fun k9 S9 hk h => VX_out C htab hk (h.2 (by omega)))
        replace h := h.1 rfl
        refine V_st (st' := [Value.int v8]) rfl ?_
        refine V_aload_n (pc := 24) C dX8_mustStay_24 rfl 0 rfl ?_
        refine V_getF (pc := 25) C hT f1_X8_15 g993 dX8_mustStay_25 ?_
        refine V_iload_n (pc := 28) C dX8_mustStay_28 rfl 1 rfl ?_
        refine V_mld (pc := 29) C hT tb1_arr (n := 8) (c9 := 115) rfl rfl rfl h dX8_mustStay_29 (fun h => ?_)
        refine V_icmp_lt (pc := 30) (tgt := 37) C dX8_mustStay_30 (by decide) h (fun h => ?_) (fun h => ?_)
        · refine V_iconst (pc := 37) C (v := 0) dX8_mustStay_37 rfl ?_
          exact V_zret (pc := 38) C hr (by decide) rfl h dX8_mustStay_38
        · refine V_iconst (pc := 33) C (v := 1) dX8_mustStay_33 rfl ?_
          refine V_goto (pc := 34) (tgt := 38) C dX8_mustStay_34 (by decide) ?_
          exact V_zret (pc := 38) C hr (by decide) rfl h dX8_mustStay_38
theorem pl_X8_audit : (parseMethodDescriptor yX8_audit.desc).map (fun d => d.parameters.length) = some 2 := by decide +kernel
def w_X8_audit_55  (Q : Nat → Int32 → Sg → Prop) : Nat → Int32 → Int32 → Int32 → Sg → Prop
  | 0, _, _, _, _ => False
  | n + 1, x2, x4, x5, S => ((x2 < x5 → Q 0 x4 S) ∧ (¬ x2 < x5 → (vp_in x5 400 ∧ (∀ v1, v1 = x4 + (S.1 140 (nt x5)) → w_X8_audit_55  Q n x2 v1 (x5 + 1) S))))
theorem k_X8_audit_55 (hT : xT X = tb1) (hl : l.stackTraces = false) (C : Cn X k0 p l R s m meth c cX8_audit RX8 6 3 43) (hr : meth.sig.returnType = (some .int)) (hnm : meth.name = yX8_audit.name) (htab : ∀ x ∈ c.exceptionTable.toList, False)  : ∀ n {x2 : Int32} {x4 : Int32} {x5 : Int32} {S : Sg}, w_X8_audit_55  Qa n x2 x4 x5 S → V X p l e R s m args below meth c 6 (QM X below args s S0 ad0 rvI Qa) S0 ad0 S 55 [(0, Value.ref (enc 12 0)), (2, Value.int x2), (4, Value.int x4), (5, Value.int x5)] [] := by
  intro n
  induction n with
  | zero => intro x2 x4 x5 S h; exact h.elim
  | succ n ih =>
    intro x2 x4 x5 S h
    refine V_iload (pc := 55) C dX8_audit_55 3 rfl ?_
    refine V_iload_n (pc := 57) C dX8_audit_57 rfl 1 rfl ?_
    refine V_icmp_gt (pc := 58) (tgt := 79) C dX8_audit_58 (by decide) h (fun h => ?_) (fun h => ?_)
    · refine V_iload (pc := 79) C dX8_audit_79 2 rfl ?_
      exact V_iret (pc := 81) C hr rfl h dX8_audit_81
    · refine V_iload (pc := 61) C dX8_audit_61 2 rfl ?_
      refine V_aload_n (pc := 63) C dX8_audit_63 rfl 0 rfl ?_
      refine V_getF (pc := 64) C hT f1_X8_40 g1018 dX8_audit_64 ?_
      refine V_iload (pc := 67) C dX8_audit_67 3 rfl ?_
      refine V_mld (pc := 69) C hT tb1_arr (n := 400) (c9 := 140) rfl rfl rfl h dX8_audit_69 (fun h => ?_)
      refine V_iadd (pc := 70) C dX8_audit_70 ?_
      refine V_nI fun v1 e9 => ?_
      replace h := h v1 e9; clear e9
      refine V_istore (pc := 71) C dX8_audit_71 (by decide) rfl ?_
      refine V_iinc (pc := 73) C (a := 3) (v := x5 + 1) dX8_audit_73 rfl rfl (by decide) rfl ?_
      refine V_goto (pc := 76) (tgt := 55) C dX8_audit_76 (by decide) ?_
      refine V_sub [2, 3, 1, 0] rfl ?_
      exact ih h
def w_X8_audit_41  (Q : Nat → Int32 → Sg → Prop) (x1 : Int32) (x2 : Int32) (y0 : Int32) (S : Sg) : Prop := (w_X8_fails y0 S (fun k4 v3 S2 => (k4 = 0 → ((v3 = 0 → ∃ n9, w_X8_audit_55  Q n9 x2 0 x1 S2) ∧ (¬ v3 = 0 → Q 0 0 S2))) ∧ (¬ k4 = 0 → Q k4 0 S2)))
theorem k_X8_audit_41 (hT : xT X = tb1) (hl : l.stackTraces = false) (C : Cn X k0 p l R s m meth c cX8_audit RX8 6 3 43) (hr : meth.sig.returnType = (some .int)) (hnm : meth.name = yX8_audit.name) (htab : ∀ x ∈ c.exceptionTable.toList, False)  {x1 : Int32} {x2 : Int32} {y0 : Int32} {S : Sg} (h : w_X8_audit_41  Qa x1 x2 y0 S) : V X p l e R s m args below meth c 6 (QM X below args s S0 ad0 rvI Qa) S0 ad0 S 41 [(0, Value.ref (enc 12 0)), (1, Value.int x1), (2, Value.int x2)] [Value.int y0, Value.ref (enc 12 0)] := by
  refine V_callV (pc := 41) C (ct_X8_fails hT hl h) g1120 g1122 g32 g1123 g64 ⟨by decide, by decide, pl_X8_fails⟩ (enc_ne63 (by decide)) (ct_obj hT rfl (by decide)) rfl ⟨by decide, by decide⟩ (rest := []) rfl (le8 rfl) dX8_audit_41 (fun v3 S2 h => ?_) (fun k9 S9 hk h => VX_out C htab hk (h.2 (by omega)))
  replace h := h.1 rfl
  refine V_st (st' := [Value.int v3]) rfl ?_
  refine V_if_eq (pc := 44) (tgt := 49) C dX8_audit_44 (by decide) h (fun h => ?_) (fun h => ?_)
  · refine V_iconst (pc := 49) C (v := 0) dX8_audit_49 rfl ?_
    refine V_istore (pc := 50) C dX8_audit_50 (by decide) rfl ?_
    refine V_iload_n (pc := 52) C dX8_audit_52 rfl 2 rfl ?_
    refine V_istore (pc := 53) C dX8_audit_53 (by decide) rfl ?_
    refine V_sub [2, 4, 1, 0] rfl ?_
    obtain ⟨n9, h⟩ := h
    exact k_X8_audit_55 hT hl C hr hnm htab  n9 h
  · refine V_iconst (pc := 47) C (v := 0) dX8_audit_47 rfl ?_
    exact V_iret (pc := 48) C hr rfl h dX8_audit_48
def w_X8_audit_21  (Q : Nat → Int32 → Sg → Prop) (x1 : Int32) (x2 : Int32) (y0 : Int32) (S : Sg) : Prop := ((y0 = 0 → w_X8_audit_41  Q x1 x2 1 S) ∧ (¬ y0 = 0 → ((x1 ≤ x2 → w_X8_audit_41  Q x1 x2 0 S) ∧ (¬ x1 ≤ x2 → w_X8_audit_41  Q x1 x2 2 S))))
theorem k_X8_audit_21 (hT : xT X = tb1) (hl : l.stackTraces = false) (C : Cn X k0 p l R s m meth c cX8_audit RX8 6 3 43) (hr : meth.sig.returnType = (some .int)) (hnm : meth.name = yX8_audit.name) (htab : ∀ x ∈ c.exceptionTable.toList, False)  {x1 : Int32} {x2 : Int32} {y0 : Int32} {S : Sg} (h : w_X8_audit_21  Qa x1 x2 y0 S) : V X p l e R s m args below meth c 6 (QM X below args s S0 ad0 rvI Qa) S0 ad0 S 21 [(0, Value.ref (enc 12 0)), (1, Value.int x1), (2, Value.int x2)] [Value.int y0] := by
  refine V_istore_n (pc := 21) C dX8_audit_21 rfl (by decide) rfl ?_
  refine V_aload_n (pc := 22) C dX8_audit_22 rfl 1 rfl ?_
  refine V_iload_n (pc := 23) C dX8_audit_23 rfl 0 rfl ?_
  refine V_if_ne (pc := 24) (tgt := 31) C dX8_audit_24 (by decide) h (fun h => ?_) (fun h => ?_)
  · refine V_iload_n (pc := 31) C dX8_audit_31 rfl 3 rfl ?_
    refine V_iload_n (pc := 32) C dX8_audit_32 rfl 2 rfl ?_
    refine V_icmp_ge (pc := 33) (tgt := 40) C dX8_audit_33 (by decide) h (fun h => ?_) (fun h => ?_)
    · refine V_iconst (pc := 40) C (v := 0) dX8_audit_40 rfl ?_
      refine V_sub [1, 2, 3] rfl ?_
      exact k_X8_audit_41 hT hl C hr hnm htab  h
    · refine V_iconst (pc := 36) C (v := 2) dX8_audit_36 rfl ?_
      refine V_goto (pc := 37) (tgt := 41) C dX8_audit_37 (by decide) ?_
      refine V_sub [1, 2, 3] rfl ?_
      exact k_X8_audit_41 hT hl C hr hnm htab  h
  · refine V_iconst (pc := 27) C (v := 1) dX8_audit_27 rfl ?_
    refine V_goto (pc := 28) (tgt := 41) C dX8_audit_28 (by decide) ?_
    refine V_sub [1, 2, 3] rfl ?_
    exact k_X8_audit_41 hT hl C hr hnm htab  h
def w_X8_audit_20  (Q : Nat → Int32 → Sg → Prop) (x1 : Int32) (x2 : Int32) (S : Sg) : Prop := w_X8_audit_21  Q x1 x2 0 S
theorem k_X8_audit_20 (hT : xT X = tb1) (hl : l.stackTraces = false) (C : Cn X k0 p l R s m meth c cX8_audit RX8 6 3 43) (hr : meth.sig.returnType = (some .int)) (hnm : meth.name = yX8_audit.name) (htab : ∀ x ∈ c.exceptionTable.toList, False)  {x1 : Int32} {x2 : Int32} {S : Sg} (h : w_X8_audit_20  Qa x1 x2 S) : V X p l e R s m args below meth c 6 (QM X below args s S0 ad0 rvI Qa) S0 ad0 S 20 [(0, Value.ref (enc 12 0)), (1, Value.int x1), (2, Value.int x2)] [] := by
  refine V_iconst (pc := 20) C (v := 0) dX8_audit_20 rfl ?_
  refine V_sub [0, 1, 2] rfl ?_
  exact k_X8_audit_21 hT hl C hr hnm htab  h
def w_X8_audit (a1 : Int32) (a2 : Int32) (S : Sg) (Q : Nat → Int32 → Sg → Prop) : Prop := (w_X8_isTicket a1 S (fun k7 v6 S5 => (k7 = 0 → ((v6 = 0 → w_X8_audit_20  Q a1 a2 S5) ∧ (¬ v6 = 0 → (w_X8_isTicket a2 S5 (fun k10 v9 S8 => (k10 = 0 → ((v9 = 0 → w_X8_audit_20  Q a1 a2 S8) ∧ (¬ v9 = 0 → w_X8_audit_21  Q a1 a2 1 S8))) ∧ (¬ k10 = 0 → Q k10 0 S8)))))) ∧ (¬ k7 = 0 → Q k7 0 S5)))
theorem ct_X8_audit (hT : xT X = tb1) (hl : l.stackTraces = false) {a1 : Int32} {a2 : Int32} {S : Sg} (h : w_X8_audit a1 a2 S Qa) : CT X k0 l yX8_audit cX8_audit 6 (some .int) 3 43 [Value.ref (enc 12 0), Value.int a1, Value.int a2] rvI S Qa :=
  CT_ofV (own := RX8) (by decide +kernel) (le8 rfl) rfl hl fun p e R s m args below meth c ad0 C hr hnm htab => by
    refine V_aload_n (pc := 0) C dX8_audit_0 rfl 0 rfl ?_
    refine V_iload_n (pc := 1) C dX8_audit_1 rfl 1 rfl ?_
    refine V_callV (pc := 2) C (ct_X8_isTicket hT hl h) g1257 g1259 g50 g1260 g64 ⟨by decide, by decide, pl_X8_isTicket⟩ (enc_ne63 (by decide)) (ct_obj hT rfl (by decide)) rfl ⟨by decide, by decide⟩ (rest := []) rfl (le8 rfl) dX8_audit_2 (fun v6 S5 h => ?_) (fun k9 S9 hk h => VX_out C htab hk (h.2 (by omega)))
    replace h := h.1 rfl
    refine V_st (st' := [Value.int v6]) rfl ?_
    refine V_if_eq (pc := 5) (tgt := 20) C dX8_audit_5 (by decide) h (fun h => ?_) (fun h => ?_)
    · refine V_sub [0, 1, 2] rfl ?_
      exact k_X8_audit_20 hT hl C hr hnm htab  h
    · refine V_aload_n (pc := 8) C dX8_audit_8 rfl 0 rfl ?_
      refine V_iload_n (pc := 9) C dX8_audit_9 rfl 2 rfl ?_
      refine V_callV (pc := 10) C (ct_X8_isTicket hT hl h) g1257 g1259 g50 g1260 g64 ⟨by decide, by decide, pl_X8_isTicket⟩ (enc_ne63 (by decide)) (ct_obj hT rfl (by decide)) rfl ⟨by decide, by decide⟩ (rest := []) rfl (le8 rfl) dX8_audit_10 (fun v9 S8 h => ?_) (fun k9 S9 hk h => VX_out C htab hk (h.2 (by omega)))
      replace h := h.1 rfl
      refine V_st (st' := [Value.int v9]) rfl ?_
      refine V_if_eq (pc := 13) (tgt := 20) C dX8_audit_13 (by decide) h (fun h => ?_) (fun h => ?_)
      · refine V_sub [0, 1, 2] rfl ?_
        exact k_X8_audit_20 hT hl C hr hnm htab  h
      · refine V_iconst (pc := 16) C (v := 1) dX8_audit_16 rfl ?_
        refine V_goto (pc := 17) (tgt := 21) C dX8_audit_17 (by decide) ?_
        refine V_sub [0, 1, 2] rfl ?_
        exact k_X8_audit_21 hT hl C hr hnm htab  h
theorem pl_X8_all : (parseMethodDescriptor yX8_all.desc).map (fun d => d.parameters.length) = some 1 := by decide +kernel
def w_X8_all_63  (Q : Nat → Int32 → Sg → Prop) : Nat → Int32 → Int32 → Int32 → Int32 → Sg → Prop
  | 0, _, _, _, _, _ => False
  | n + 1, x1, x2, x3, x4, S => (((S.1 336 0) ≤ x4 → ((x1 = 0 → Q 0 (S.1 300 0) S) ∧ (¬ x1 = 0 → ((x1 = 1 → Q 0 (S.1 321 0) S) ∧ (¬ x1 = 1 → ((x1 = 2 → Q 0 (S.1 336 0) S) ∧ (¬ x1 = 2 → ((x1 = 3 → Q 0 x2 S) ∧ (¬ x1 = 3 → Q 0 x3 S))))))))) ∧ (¬ (S.1 336 0) ≤ x4 → (vp_in x4 400 ∧ (∀ v1, v1 = x3 + (S.1 140 (nt x4)) → w_X8_all_63  Q n x1 x2 v1 (x4 + 1) S))))
theorem k_X8_all_63 (hT : xT X = tb1) (hl : l.stackTraces = false) (C : Cn X k0 p l R s m meth c cX8_all RX8 5 2 22) (hr : meth.sig.returnType = (some .int)) (hnm : meth.name = yX8_all.name) (htab : ∀ x ∈ c.exceptionTable.toList, False)  : ∀ n {x1 : Int32} {x2 : Int32} {x3 : Int32} {x4 : Int32} {S : Sg}, w_X8_all_63  Qa n x1 x2 x3 x4 S → V X p l e R s m args below meth c 5 (QM X below args s S0 ad0 rvI Qa) S0 ad0 S 63 [(0, Value.ref (enc 12 0)), (1, Value.int x1), (2, Value.int x2), (3, Value.int x3), (4, Value.int x4)] [] := by
  intro n
  induction n with
  | zero => intro x1 x2 x3 x4 S h; exact h.elim
  | succ n ih =>
    intro x1 x2 x3 x4 S h
    refine V_iload (pc := 63) C dX8_all_63 4 rfl ?_
    refine V_aload_n (pc := 65) C dX8_all_65 rfl 0 rfl ?_
    refine V_getI (pc := 66) C hT f1_X8_36 g1014 dX8_all_66 ?_
    refine V_icmp_ge (pc := 69) (tgt := 88) C dX8_all_69 (by decide) h (fun h => ?_) (fun h => ?_)
    · refine V_iload_n (pc := 88) C dX8_all_88 rfl 1 rfl ?_
      refine V_if_ne (pc := 89) (tgt := 99) C dX8_all_89 (by decide) h (fun h => ?_) (fun h => ?_)
      · refine V_iload_n (pc := 99) C dX8_all_99 rfl 1 rfl ?_
        refine V_iconst (pc := 100) C (v := 1) dX8_all_100 rfl ?_
        refine V_icmp_ne (pc := 101) (tgt := 111) C dX8_all_101 (by decide) h (fun h => ?_) (fun h => ?_)
        · refine V_iload_n (pc := 111) C dX8_all_111 rfl 1 rfl ?_
          refine V_iconst (pc := 112) C (v := 2) dX8_all_112 rfl ?_
          refine V_icmp_ne (pc := 113) (tgt := 123) C dX8_all_113 (by decide) h (fun h => ?_) (fun h => ?_)
          · refine V_iload_n (pc := 123) C dX8_all_123 rfl 1 rfl ?_
            refine V_iconst (pc := 124) C (v := 3) dX8_all_124 rfl ?_
            refine V_icmp_ne (pc := 125) (tgt := 132) C dX8_all_125 (by decide) h (fun h => ?_) (fun h => ?_)
            · refine V_iload_n (pc := 132) C dX8_all_132 rfl 3 rfl ?_
              exact V_iret (pc := 133) C hr rfl h dX8_all_133
            · refine V_iload_n (pc := 128) C dX8_all_128 rfl 2 rfl ?_
              refine V_goto (pc := 129) (tgt := 133) C dX8_all_129 (by decide) ?_
              exact V_iret (pc := 133) C hr rfl h dX8_all_133
          · refine V_aload_n (pc := 116) C dX8_all_116 rfl 0 rfl ?_
            refine V_getI (pc := 117) C hT f1_X8_36 g1014 dX8_all_117 ?_
            refine V_goto (pc := 120) (tgt := 133) C dX8_all_120 (by decide) ?_
            exact V_iret (pc := 133) C hr rfl h dX8_all_133
        · refine V_aload_n (pc := 104) C dX8_all_104 rfl 0 rfl ?_
          refine V_getI (pc := 105) C hT f1_X8_21 g999 dX8_all_105 ?_
          refine V_goto (pc := 108) (tgt := 133) C dX8_all_108 (by decide) ?_
          exact V_iret (pc := 133) C hr rfl h dX8_all_133
      · refine V_aload_n (pc := 92) C dX8_all_92 rfl 0 rfl ?_
        refine V_getI (pc := 93) C hT f1_X8_0 g978 dX8_all_93 ?_
        refine V_goto (pc := 96) (tgt := 133) C dX8_all_96 (by decide) ?_
        exact V_iret (pc := 133) C hr rfl h dX8_all_133
    · refine V_iload_n (pc := 72) C dX8_all_72 rfl 3 rfl ?_
      refine V_aload_n (pc := 73) C dX8_all_73 rfl 0 rfl ?_
      refine V_getF (pc := 74) C hT f1_X8_40 g1018 dX8_all_74 ?_
      refine V_iload (pc := 77) C dX8_all_77 4 rfl ?_
      refine V_mld (pc := 79) C hT tb1_arr (n := 400) (c9 := 140) rfl rfl rfl h dX8_all_79 (fun h => ?_)
      refine V_iadd (pc := 80) C dX8_all_80 ?_
      refine V_nI fun v1 e9 => ?_
      replace h := h v1 e9; clear e9
      refine V_istore_n (pc := 81) C dX8_all_81 rfl (by decide) rfl ?_
      refine V_iinc (pc := 82) C (a := 4) (v := x4 + 1) dX8_all_82 rfl rfl (by decide) rfl ?_
      refine V_goto (pc := 85) (tgt := 63) C dX8_all_85 (by decide) ?_
      refine V_sub [2, 3, 4, 1, 0] rfl ?_
      exact ih h
def w_X8_all_50 (k27 : Int32 → Int32 → Int32 → Sg → Prop) (Q : Nat → Int32 → Sg → Prop) (x1 : Int32) (x3 : Int32) (y0 : Int32) (y1 : Int32) (S : Sg) : Prop := (∀ v2, v2 = y1 + y0 → k27 x1 v2 (x3 + 1) S)
theorem k_X8_all_50 (hT : xT X = tb1) (hl : l.stackTraces = false) (C : Cn X k0 p l R s m meth c cX8_all RX8 5 2 22) (hr : meth.sig.returnType = (some .int)) (hnm : meth.name = yX8_all.name) (htab : ∀ x ∈ c.exceptionTable.toList, False) {k27 : Int32 → Int32 → Int32 → Sg → Prop} (hk27 : ∀ {x1 : Int32} {x2 : Int32} {x3 : Int32} {S : Sg}, k27 x1 x2 x3 S → V X p l e R s m args below meth c 5 (QM X below args s S0 ad0 rvI Qa) S0 ad0 S 27 [(0, Value.ref (enc 12 0)), (1, Value.int x1), (2, Value.int x2), (3, Value.int x3)] []) {x1 : Int32} {x3 : Int32} {y0 : Int32} {y1 : Int32} {S : Sg} (h : w_X8_all_50 k27 Qa x1 x3 y0 y1 S) : V X p l e R s m args below meth c 5 (QM X below args s S0 ad0 rvI Qa) S0 ad0 S 50 [(0, Value.ref (enc 12 0)), (1, Value.int x1), (3, Value.int x3)] [Value.int y0, Value.int y1] := by
  refine V_iadd (pc := 50) C dX8_all_50 ?_
  refine V_nI fun v2 e9 => ?_
  replace h := h v2 e9; clear e9
  refine V_istore_n (pc := 51) C dX8_all_51 rfl (by decide) rfl ?_
  refine V_iinc (pc := 52) C (a := 3) (v := x3 + 1) dX8_all_52 rfl rfl (by decide) rfl ?_
  refine V_goto (pc := 55) (tgt := 27) C dX8_all_55 (by decide) ?_
  refine V_sub [2, 3, 1, 0] rfl ?_
  exact hk27 h
def w_X8_all_27  (Q : Nat → Int32 → Sg → Prop) : Nat → Int32 → Int32 → Int32 → Sg → Prop
  | 0, _, _, _, _ => False
  | n + 1, x1, x2, x3, S => (((S.1 331 0) ≤ x3 → ∃ n9, w_X8_all_63  Q n9 x1 x2 0 0 S) ∧ (¬ (S.1 331 0) ≤ x3 → (vp_in x3 100 ∧ (((S.1 135 (nt x3)) = 0 → w_X8_all_50 (fun x1 x2 x3 S => w_X8_all_27  Q n x1 x2 x3 S) Q x1 x3 1 x2 S) ∧ (¬ (S.1 135 (nt x3)) = 0 → w_X8_all_50 (fun x1 x2 x3 S => w_X8_all_27  Q n x1 x2 x3 S) Q x1 x3 0 x2 S)))))
theorem k_X8_all_27 (hT : xT X = tb1) (hl : l.stackTraces = false) (C : Cn X k0 p l R s m meth c cX8_all RX8 5 2 22) (hr : meth.sig.returnType = (some .int)) (hnm : meth.name = yX8_all.name) (htab : ∀ x ∈ c.exceptionTable.toList, False)  : ∀ n {x1 : Int32} {x2 : Int32} {x3 : Int32} {S : Sg}, w_X8_all_27  Qa n x1 x2 x3 S → V X p l e R s m args below meth c 5 (QM X below args s S0 ad0 rvI Qa) S0 ad0 S 27 [(0, Value.ref (enc 12 0)), (1, Value.int x1), (2, Value.int x2), (3, Value.int x3)] [] := by
  intro n
  induction n with
  | zero => intro x1 x2 x3 S h; exact h.elim
  | succ n ih =>
    intro x1 x2 x3 S h
    refine V_iload_n (pc := 27) C dX8_all_27 rfl 3 rfl ?_
    refine V_aload_n (pc := 28) C dX8_all_28 rfl 0 rfl ?_
    refine V_getI (pc := 29) C hT f1_X8_31 g1009 dX8_all_29 ?_
    refine V_icmp_ge (pc := 32) (tgt := 58) C dX8_all_32 (by decide) h (fun h => ?_) (fun h => ?_)
    · refine V_iconst (pc := 58) C (v := 0) dX8_all_58 rfl ?_
      refine V_istore_n (pc := 59) C dX8_all_59 rfl (by decide) rfl ?_
      refine V_iconst (pc := 60) C (v := 0) dX8_all_60 rfl ?_
      refine V_istore (pc := 61) C dX8_all_61 (by decide) rfl ?_
      refine V_sub [2, 3, 4, 1, 0] rfl ?_
      obtain ⟨n9, h⟩ := h
      exact k_X8_all_63 hT hl C hr hnm htab  n9 h
    · refine V_iload_n (pc := 35) C dX8_all_35 rfl 2 rfl ?_
      refine V_aload_n (pc := 36) C dX8_all_36 rfl 0 rfl ?_
      refine V_getF (pc := 37) C hT f1_X8_35 g1013 dX8_all_37 ?_
      refine V_iload_n (pc := 40) C dX8_all_40 rfl 3 rfl ?_
      refine V_mldZ (pc := 41) C hT tb1_arr (n := 100) (c9 := 135) rfl rfl rfl h dX8_all_41 (fun h => ?_)
      refine V_if_eq (pc := 42) (tgt := 49) C dX8_all_42 (by decide) h (fun h => ?_) (fun h => ?_)
      · refine V_iconst (pc := 49) C (v := 1) dX8_all_49 rfl ?_
        refine V_sub [0, 1, 3] rfl ?_
        exact k_X8_all_50 hT hl C hr hnm htab (fun h => ih h) h
      · refine V_iconst (pc := 45) C (v := 0) dX8_all_45 rfl ?_
        refine V_goto (pc := 46) (tgt := 50) C dX8_all_46 (by decide) ?_
        refine V_sub [0, 1, 3] rfl ?_
        exact k_X8_all_50 hT hl C hr hnm htab (fun h => ih h) h
def w_X8_all_15  (Q : Nat → Int32 → Sg → Prop) (x1 : Int32) (y0 : Int32) (S : Sg) : Prop := (w_X8_fails y0 S (fun k5 v4 S3 => (k5 = 0 → ((v4 = 0 → ∃ n9, w_X8_all_27  Q n9 x1 0 0 S3) ∧ (¬ v4 = 0 → Q 0 0 S3))) ∧ (¬ k5 = 0 → Q k5 0 S3)))
theorem k_X8_all_15 (hT : xT X = tb1) (hl : l.stackTraces = false) (C : Cn X k0 p l R s m meth c cX8_all RX8 5 2 22) (hr : meth.sig.returnType = (some .int)) (hnm : meth.name = yX8_all.name) (htab : ∀ x ∈ c.exceptionTable.toList, False)  {x1 : Int32} {y0 : Int32} {S : Sg} (h : w_X8_all_15  Qa x1 y0 S) : V X p l e R s m args below meth c 5 (QM X below args s S0 ad0 rvI Qa) S0 ad0 S 15 [(0, Value.ref (enc 12 0)), (1, Value.int x1)] [Value.int y0, Value.ref (enc 12 0)] := by
  refine V_callV (pc := 15) C (ct_X8_fails hT hl h) g1120 g1122 g32 g1123 g64 ⟨by decide, by decide, pl_X8_fails⟩ (enc_ne63 (by decide)) (ct_obj hT rfl (by decide)) rfl ⟨by decide, by decide⟩ (rest := []) rfl (le8 rfl) dX8_all_15 (fun v4 S3 h => ?_) (fun k9 S9 hk h => VX_out C htab hk (h.2 (by omega)))
  replace h := h.1 rfl
  refine V_st (st' := [Value.int v4]) rfl ?_
  refine V_if_eq (pc := 18) (tgt := 23) C dX8_all_18 (by decide) h (fun h => ?_) (fun h => ?_)
  · refine V_iconst (pc := 23) C (v := 0) dX8_all_23 rfl ?_
    refine V_istore_n (pc := 24) C dX8_all_24 rfl (by decide) rfl ?_
    refine V_iconst (pc := 25) C (v := 0) dX8_all_25 rfl ?_
    refine V_istore_n (pc := 26) C dX8_all_26 rfl (by decide) rfl ?_
    refine V_sub [2, 3, 1, 0] rfl ?_
    obtain ⟨n9, h⟩ := h
    exact k_X8_all_27 hT hl C hr hnm htab  n9 h
  · refine V_iconst (pc := 21) C (v := 0) dX8_all_21 rfl ?_
    exact V_iret (pc := 22) C hr rfl h dX8_all_22
def w_X8_all (a1 : Int32) (S : Sg) (Q : Nat → Int32 → Sg → Prop) : Prop := (w_X8_isIn a1 0 4 S (fun k8 v7 S6 => (k8 = 0 → ((v7 = 0 → w_X8_all_15  Q a1 1 S6) ∧ (¬ v7 = 0 → w_X8_all_15  Q a1 0 S6))) ∧ (¬ k8 = 0 → Q k8 0 S6)))
theorem ct_X8_all (hT : xT X = tb1) (hl : l.stackTraces = false) {a1 : Int32} {S : Sg} (h : w_X8_all a1 S Qa) : CT X k0 l yX8_all cX8_all 5 (some .int) 2 22 [Value.ref (enc 12 0), Value.int a1] rvI S Qa :=
  CT_ofV (own := RX8) (by decide +kernel) (le8 rfl) rfl hl fun p e R s m args below meth c ad0 C hr hnm htab => by
    refine V_aload_n (pc := 0) C dX8_all_0 rfl 0 rfl ?_
    refine V_iload_n (pc := 1) C dX8_all_1 rfl 1 rfl ?_
    refine V_iconst (pc := 2) C (v := 0) dX8_all_2 rfl ?_
    refine V_iconst (pc := 3) C (v := 4) dX8_all_3 rfl ?_
    refine V_callS (pc := 4) C (ct_X8_isIn hT hl h) g1117 g1118 g1119 g64 ⟨by decide, by decide, pl_X8_isIn⟩ ⟨by decide, by decide⟩ (rest := [Value.ref (enc 12 0)]) rfl (le8 rfl) dX8_all_4 (fun v7 S6 h => ?_) (fun k9 S9 hk h => VX_out C htab hk (h.2 (by omega)))
    replace h := h.1 rfl
    refine V_st (st' := [Value.int v7, Value.ref (enc 12 0)]) rfl ?_
    refine V_if_eq (pc := 7) (tgt := 14) C dX8_all_7 (by decide) h (fun h => ?_) (fun h => ?_)
    · refine V_iconst (pc := 14) C (v := 1) dX8_all_14 rfl ?_
      refine V_sub [0, 1] rfl ?_
      exact k_X8_all_15 hT hl C hr hnm htab  h
    · refine V_iconst (pc := 10) C (v := 0) dX8_all_10 rfl ?_
      refine V_goto (pc := 11) (tgt := 15) C dX8_all_11 (by decide) ?_
      refine V_sub [0, 1] rfl ?_
      exact k_X8_all_15 hT hl C hr hnm htab  h
end MB
