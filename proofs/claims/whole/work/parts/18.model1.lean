section MA
variable {X : Cx} {p : Program} {l : Launch} {e : Env} {R : Room} {s : State} {m : MethodId} {args : Array Value} {below : List Frame} {meth : Method} {c : Code} {S0 : Sg} {ad0 : Nat → Nat} {Qa : Nat → Int32 → Sg → Prop}
theorem pl_X8_thrown : (parseMethodDescriptor yX8_thrown.desc).map (fun d => d.parameters.length) = some 0 := by decide +kernel
def w_X8_thrown  (S : Sg) (Q : Nat → Int32 → Sg → Prop) : Prop := Q 0 (S.1 342 0) S
theorem ct_X8_thrown (hT : xT X = tb1) (hl : l.stackTraces = false)  {S : Sg} (h : w_X8_thrown  S Qa) : CT X k0 l yX8_thrown cX8_thrown 1 (some .int) 1 0 [Value.ref (enc 12 0)] rvI S Qa :=
  CT_ofV (own := RX8) (by decide +kernel) (le8 rfl) rfl hl fun p e R s m args below meth c ad0 C hr hnm htab => by
    refine V_aload_n (pc := 0) C dX8_thrown_0 rfl 0 rfl ?_
    refine V_getI (pc := 1) C hT f1_X8_42 g1020 dX8_thrown_1 ?_
    exact V_iret (pc := 4) C hr rfl h dX8_thrown_4
theorem pl_X8_fails : (parseMethodDescriptor yX8_fails.desc).map (fun d => d.parameters.length) = some 1 := by decide +kernel
def w_X8_fails (a1 : Int32) (S : Sg) (Q : Nat → Int32 → Sg → Prop) : Prop := (∀ S1, S1 = su S 342 0 a1 → ((a1 ≤ 0 → Q 0 0 S1) ∧ (¬ a1 ≤ 0 → Q 0 1 S1)))
theorem ct_X8_fails (hT : xT X = tb1) (hl : l.stackTraces = false) {a1 : Int32} {S : Sg} (h : w_X8_fails a1 S Qa) : CT X k0 l yX8_fails cX8_fails 2 (some .boolean) 1 0 [Value.ref (enc 12 0), Value.int a1] rvI S Qa :=
  CT_ofV (own := RX8) (by decide +kernel) (le8 rfl) rfl hl fun p e R s m args below meth c ad0 C hr hnm htab => by
    refine V_aload_n (pc := 0) C dX8_fails_0 rfl 0 rfl ?_
    refine V_iload_n (pc := 1) C dX8_fails_1 rfl 1 rfl ?_
    refine V_putI (pc := 2) C hT tb1_ok f1_X8_42 (by unfold lc; decide) g1020 (Or.inl rfl) (Or.inl rfl) dX8_fails_2 (V_nx fun S1 e9 => ?_)
    replace h := h S1 e9; clear e9
    refine V_iload_n (pc := 5) C dX8_fails_5 rfl 1 rfl ?_
    refine V_if_le (pc := 6) (tgt := 13) C dX8_fails_6 (by decide) h (fun h => ?_) (fun h => ?_)
    · refine V_iconst (pc := 13) C (v := 0) dX8_fails_13 rfl ?_
      exact V_zret (pc := 14) C hr (by decide) rfl h dX8_fails_14
    · refine V_iconst (pc := 9) C (v := 1) dX8_fails_9 rfl ?_
      refine V_goto (pc := 10) (tgt := 14) C dX8_fails_10 (by decide) ?_
      exact V_zret (pc := 14) C hr (by decide) rfl h dX8_fails_14
theorem pl_X8_isIn : (parseMethodDescriptor yX8_isIn.desc).map (fun d => d.parameters.length) = some 3 := by decide +kernel
def w_X8_isIn (a0 : Int32) (a1 : Int32) (a2 : Int32) (S : Sg) (Q : Nat → Int32 → Sg → Prop) : Prop := ((a0 < a1 → Q 0 0 S) ∧ (¬ a0 < a1 → ((a2 < a0 → Q 0 0 S) ∧ (¬ a2 < a0 → Q 0 1 S))))
theorem ct_X8_isIn (hT : xT X = tb1) (hl : l.stackTraces = false) {a0 : Int32} {a1 : Int32} {a2 : Int32} {S : Sg} (h : w_X8_isIn a0 a1 a2 S Qa) : CT X k0 l yX8_isIn cX8_isIn 3 (some .boolean) 1 0 [Value.int a0, Value.int a1, Value.int a2] rvI S Qa :=
  CT_ofV (own := RX8) (by decide +kernel) (le8 rfl) rfl hl fun p e R s m args below meth c ad0 C hr hnm htab => by
    refine V_iload_n (pc := 0) C dX8_isIn_0 rfl 0 rfl ?_
    refine V_iload_n (pc := 1) C dX8_isIn_1 rfl 1 rfl ?_
    refine V_icmp_lt (pc := 2) (tgt := 14) C dX8_isIn_2 (by decide) h (fun h => ?_) (fun h => ?_)
    · refine V_iconst (pc := 14) C (v := 0) dX8_isIn_14 rfl ?_
      exact V_zret (pc := 15) C hr (by decide) rfl h dX8_isIn_15
    · refine V_iload_n (pc := 5) C dX8_isIn_5 rfl 0 rfl ?_
      refine V_iload_n (pc := 6) C dX8_isIn_6 rfl 2 rfl ?_
      refine V_icmp_gt (pc := 7) (tgt := 14) C dX8_isIn_7 (by decide) h (fun h => ?_) (fun h => ?_)
      · refine V_iconst (pc := 14) C (v := 0) dX8_isIn_14 rfl ?_
        exact V_zret (pc := 15) C hr (by decide) rfl h dX8_isIn_15
      · refine V_iconst (pc := 10) C (v := 1) dX8_isIn_10 rfl ?_
        refine V_goto (pc := 11) (tgt := 15) C dX8_isIn_11 (by decide) ?_
        exact V_zret (pc := 15) C hr (by decide) rfl h dX8_isIn_15
theorem pl_X8_isHall : (parseMethodDescriptor yX8_isHall.desc).map (fun d => d.parameters.length) = some 1 := by decide +kernel
def w_X8_isHall (a1 : Int32) (S : Sg) (Q : Nat → Int32 → Sg → Prop) : Prop := (w_X8_isIn a1 0 ((S.1 302 0) - 1) S (fun k3 v2 S1 => (k3 = 0 → ((v2 = 0 ∨ v2 = 1) ∧ Q 0 v2 S1)) ∧ (¬ k3 = 0 → Q k3 0 S1)))
theorem ct_X8_isHall (hT : xT X = tb1) (hl : l.stackTraces = false) {a1 : Int32} {S : Sg} (h : w_X8_isHall a1 S Qa) : CT X k0 l yX8_isHall cX8_isHall 2 (some .boolean) 2 22 [Value.ref (enc 12 0), Value.int a1] rvI S Qa :=
  CT_ofV (own := RX8) (by decide +kernel) (le8 rfl) rfl hl fun p e R s m args below meth c ad0 C hr hnm htab => by
    refine V_iload_n (pc := 0) C dX8_isHall_0 rfl 1 rfl ?_
    refine V_iconst (pc := 1) C (v := 0) dX8_isHall_1 rfl ?_
    refine V_aload_n (pc := 2) C dX8_isHall_2 rfl 0 rfl ?_
    refine V_getI (pc := 3) C hT f1_X8_2 g980 dX8_isHall_3 ?_
    refine V_iconst (pc := 6) C (v := 1) dX8_isHall_6 rfl ?_
    refine V_isub (pc := 7) C dX8_isHall_7 ?_
    refine V_callS (pc := 8) C (ct_X8_isIn hT hl h) g1117 g1118 g1119 g64 ⟨by decide, by decide, pl_X8_isIn⟩ ⟨by decide, by decide⟩ (rest := []) rfl (le8 rfl) dX8_isHall_8 (fun v2 S1 h => ?_) (fun k9 S9 hk h => VX_out C htab hk (h.2 (by omega)))
    replace h := h.1 rfl
    refine V_st (st' := [Value.int v2]) rfl ?_
    exact V_zret (pc := 11) C hr h.1 rfl h.2 dX8_isHall_11
theorem pl_X8_isFilm : (parseMethodDescriptor yX8_isFilm.desc).map (fun d => d.parameters.length) = some 1 := by decide +kernel
def w_X8_isFilm (a1 : Int32) (S : Sg) (Q : Nat → Int32 → Sg → Prop) : Prop := (w_X8_isIn a1 0 ((S.1 307 0) - 1) S (fun k3 v2 S1 => (k3 = 0 → ((v2 = 0 ∨ v2 = 1) ∧ Q 0 v2 S1)) ∧ (¬ k3 = 0 → Q k3 0 S1)))
theorem ct_X8_isFilm (hT : xT X = tb1) (hl : l.stackTraces = false) {a1 : Int32} {S : Sg} (h : w_X8_isFilm a1 S Qa) : CT X k0 l yX8_isFilm cX8_isFilm 2 (some .boolean) 2 22 [Value.ref (enc 12 0), Value.int a1] rvI S Qa :=
  CT_ofV (own := RX8) (by decide +kernel) (le8 rfl) rfl hl fun p e R s m args below meth c ad0 C hr hnm htab => by
    refine V_iload_n (pc := 0) C dX8_isFilm_0 rfl 1 rfl ?_
    refine V_iconst (pc := 1) C (v := 0) dX8_isFilm_1 rfl ?_
    refine V_aload_n (pc := 2) C dX8_isFilm_2 rfl 0 rfl ?_
    refine V_getI (pc := 3) C hT f1_X8_7 g985 dX8_isFilm_3 ?_
    refine V_iconst (pc := 6) C (v := 1) dX8_isFilm_6 rfl ?_
    refine V_isub (pc := 7) C dX8_isFilm_7 ?_
    refine V_callS (pc := 8) C (ct_X8_isIn hT hl h) g1117 g1118 g1119 g64 ⟨by decide, by decide, pl_X8_isIn⟩ ⟨by decide, by decide⟩ (rest := []) rfl (le8 rfl) dX8_isFilm_8 (fun v2 S1 h => ?_) (fun k9 S9 hk h => VX_out C htab hk (h.2 (by omega)))
    replace h := h.1 rfl
    refine V_st (st' := [Value.int v2]) rfl ?_
    exact V_zret (pc := 11) C hr h.1 rfl h.2 dX8_isFilm_11
theorem pl_X8_isShow : (parseMethodDescriptor yX8_isShow.desc).map (fun d => d.parameters.length) = some 1 := by decide +kernel
def w_X8_isShow (a1 : Int32) (S : Sg) (Q : Nat → Int32 → Sg → Prop) : Prop := (w_X8_isIn a1 0 ((S.1 321 0) - 1) S (fun k3 v2 S1 => (k3 = 0 → ((v2 = 0 ∨ v2 = 1) ∧ Q 0 v2 S1)) ∧ (¬ k3 = 0 → Q k3 0 S1)))
theorem ct_X8_isShow (hT : xT X = tb1) (hl : l.stackTraces = false) {a1 : Int32} {S : Sg} (h : w_X8_isShow a1 S Qa) : CT X k0 l yX8_isShow cX8_isShow 2 (some .boolean) 2 22 [Value.ref (enc 12 0), Value.int a1] rvI S Qa :=
  CT_ofV (own := RX8) (by decide +kernel) (le8 rfl) rfl hl fun p e R s m args below meth c ad0 C hr hnm htab => by
    refine V_iload_n (pc := 0) C dX8_isShow_0 rfl 1 rfl ?_
    refine V_iconst (pc := 1) C (v := 0) dX8_isShow_1 rfl ?_
    refine V_aload_n (pc := 2) C dX8_isShow_2 rfl 0 rfl ?_
    refine V_getI (pc := 3) C hT f1_X8_21 g999 dX8_isShow_3 ?_
    refine V_iconst (pc := 6) C (v := 1) dX8_isShow_6 rfl ?_
    refine V_isub (pc := 7) C dX8_isShow_7 ?_
    refine V_callS (pc := 8) C (ct_X8_isIn hT hl h) g1117 g1118 g1119 g64 ⟨by decide, by decide, pl_X8_isIn⟩ ⟨by decide, by decide⟩ (rest := []) rfl (le8 rfl) dX8_isShow_8 (fun v2 S1 h => ?_) (fun k9 S9 hk h => VX_out C htab hk (h.2 (by omega)))
    replace h := h.1 rfl
    refine V_st (st' := [Value.int v2]) rfl ?_
    exact V_zret (pc := 11) C hr h.1 rfl h.2 dX8_isShow_11
theorem pl_X8_isAge : (parseMethodDescriptor yX8_isAge.desc).map (fun d => d.parameters.length) = some 1 := by decide +kernel
def w_X8_isAge (a0 : Int32) (S : Sg) (Q : Nat → Int32 → Sg → Prop) : Prop := (w_X8_isIn a0 0 120 S (fun k3 v2 S1 => (k3 = 0 → ((v2 = 0 ∨ v2 = 1) ∧ Q 0 v2 S1)) ∧ (¬ k3 = 0 → Q k3 0 S1)))
theorem ct_X8_isAge (hT : xT X = tb1) (hl : l.stackTraces = false) {a0 : Int32} {S : Sg} (h : w_X8_isAge a0 S Qa) : CT X k0 l yX8_isAge cX8_isAge 1 (some .boolean) 2 22 [Value.int a0] rvI S Qa :=
  CT_ofV (own := RX8) (by decide +kernel) (le8 rfl) rfl hl fun p e R s m args below meth c ad0 C hr hnm htab => by
    refine V_iload_n (pc := 0) C dX8_isAge_0 rfl 0 rfl ?_
    refine V_iconst (pc := 1) C (v := 0) dX8_isAge_1 rfl ?_
    refine V_bipush (pc := 2) C (v := 120) dX8_isAge_2 rfl ?_
    refine V_callS (pc := 4) C (ct_X8_isIn hT hl h) g1117 g1118 g1119 g64 ⟨by decide, by decide, pl_X8_isIn⟩ ⟨by decide, by decide⟩ (rest := []) rfl (le8 rfl) dX8_isAge_4 (fun v2 S1 h => ?_) (fun k9 S9 hk h => VX_out C htab hk (h.2 (by omega)))
    replace h := h.1 rfl
    refine V_st (st' := [Value.int v2]) rfl ?_
    exact V_zret (pc := 7) C hr h.1 rfl h.2 dX8_isAge_7
theorem pl_X8_hall : (parseMethodDescriptor yX8_hall.desc).map (fun d => d.parameters.length) = some 2 := by decide +kernel
def w_X8_hall_38  (Q : Nat → Int32 → Sg → Prop) (x1 : Int32) (x2 : Int32) (y0 : Int32) (S : Sg) : Prop := (w_X8_fails y0 S (fun k3 v2 S1 => (k3 = 0 → ((v2 = 0 → (vp_in (S1.1 302 0) 4 ∧ (∀ S4, S4 = su S1 103 (nt (S1.1 302 0)) x1 → (vp_in (S4.1 302 0) 4 ∧ (∀ S5, S5 = su S4 104 (nt (S4.1 302 0)) x2 → (vp_in (S5.1 302 0) 4 ∧ (∀ S6, S6 = su S5 106 (nt (S5.1 302 0)) 5000 → (∀ S7, S7 = su S6 302 0 ((S6.1 302 0) + 1) → Q 0 ((S7.1 302 0) - 1) S7)))))))) ∧ (¬ v2 = 0 → Q 0 0 S1))) ∧ (¬ k3 = 0 → Q k3 0 S1)))
theorem k_X8_hall_38 (hT : xT X = tb1) (hl : l.stackTraces = false) (C : Cn X k0 p l R s m meth c cX8_hall RX8 3 2 22) (hr : meth.sig.returnType = (some .int)) (hnm : meth.name = yX8_hall.name) (htab : ∀ x ∈ c.exceptionTable.toList, False)  {x1 : Int32} {x2 : Int32} {y0 : Int32} {S : Sg} (h : w_X8_hall_38  Qa x1 x2 y0 S) : V X p l e R s m args below meth c 3 (QM X below args s S0 ad0 rvI Qa) S0 ad0 S 38 [(0, Value.ref (enc 12 0)), (1, Value.int x1), (2, Value.int x2)] [Value.int y0, Value.ref (enc 12 0)] := by
  refine V_callV (pc := 38) C (ct_X8_fails hT hl h) g1120 g1122 g32 g1123 g64 ⟨by decide, by decide, pl_X8_fails⟩ (enc_ne63 (by decide)) (ct_obj hT rfl (by decide)) rfl ⟨by decide, by decide⟩ (rest := []) rfl (le8 rfl) dX8_hall_38 (fun v2 S1 h => ?_) (fun k9 S9 hk h => VX_out C htab hk (h.2 (by omega)))
  replace h := h.1 rfl
  refine V_st (st' := [Value.int v2]) rfl ?_
  refine V_if_eq (pc := 41) (tgt := 46) C dX8_hall_41 (by decide) h (fun h => ?_) (fun h => ?_)
  · refine V_aload_n (pc := 46) C dX8_hall_46 rfl 0 rfl ?_
    refine V_getF (pc := 47) C hT f1_X8_3 g981 dX8_hall_47 ?_
    refine V_aload_n (pc := 50) C dX8_hall_50 rfl 0 rfl ?_
    refine V_getI (pc := 51) C hT f1_X8_2 g980 dX8_hall_51 ?_
    refine V_iload_n (pc := 54) C dX8_hall_54 rfl 1 rfl ?_
    refine V_mst (pc := 55) C hT tb1_arr (n := 4) (c9 := 103) (by decide) rfl rfl rfl h dX8_hall_55 (fun h => V_nx fun S4 e9 => ?_)
    replace h := h S4 e9; clear e9
    refine V_aload_n (pc := 56) C dX8_hall_56 rfl 0 rfl ?_
    refine V_getF (pc := 57) C hT f1_X8_4 g982 dX8_hall_57 ?_
    refine V_aload_n (pc := 60) C dX8_hall_60 rfl 0 rfl ?_
    refine V_getI (pc := 61) C hT f1_X8_2 g980 dX8_hall_61 ?_
    refine V_iload_n (pc := 64) C dX8_hall_64 rfl 2 rfl ?_
    refine V_mst (pc := 65) C hT tb1_arr (n := 4) (c9 := 104) (by decide) rfl rfl rfl h dX8_hall_65 (fun h => V_nx fun S5 e9 => ?_)
    replace h := h S5 e9; clear e9
    refine V_aload_n (pc := 66) C dX8_hall_66 rfl 0 rfl ?_
    refine V_getF (pc := 67) C hT f1_X8_6 g984 dX8_hall_67 ?_
    refine V_aload_n (pc := 70) C dX8_hall_70 rfl 0 rfl ?_
    refine V_getI (pc := 71) C hT f1_X8_2 g980 dX8_hall_71 ?_
    refine V_sipush (pc := 74) C (v := 5000) dX8_hall_74 rfl ?_
    refine V_mst (pc := 77) C hT tb1_arr (n := 4) (c9 := 106) (by decide) rfl rfl rfl h dX8_hall_77 (fun h => V_nx fun S6 e9 => ?_)
    replace h := h S6 e9; clear e9
    refine V_aload_n (pc := 78) C dX8_hall_78 rfl 0 rfl ?_
    refine V_dup (pc := 79) C dX8_hall_79 rfl ?_
    refine V_getI (pc := 80) C hT f1_X8_2 g980 dX8_hall_80 ?_
    refine V_iconst (pc := 83) C (v := 1) dX8_hall_83 rfl ?_
    refine V_iadd (pc := 84) C dX8_hall_84 ?_
    refine V_putI (pc := 85) C hT tb1_ok f1_X8_2 (by unfold lc; decide) g980 (Or.inl rfl) (Or.inl rfl) dX8_hall_85 (V_nx fun S7 e9 => ?_)
    replace h := h S7 e9; clear e9
    refine V_aload_n (pc := 88) C dX8_hall_88 rfl 0 rfl ?_
    refine V_getI (pc := 89) C hT f1_X8_2 g980 dX8_hall_89 ?_
    refine V_iconst (pc := 92) C (v := 1) dX8_hall_92 rfl ?_
    refine V_isub (pc := 93) C dX8_hall_93 ?_
    exact V_iret (pc := 94) C hr rfl h dX8_hall_94
  · refine V_iconst (pc := 44) C (v := 0) dX8_hall_44 rfl ?_
    exact V_iret (pc := 45) C hr rfl h dX8_hall_45
def w_X8_hall_21  (Q : Nat → Int32 → Sg → Prop) (x1 : Int32) (x2 : Int32) (S : Sg) : Prop := w_X8_hall_38  Q x1 x2 1 S
theorem k_X8_hall_21 (hT : xT X = tb1) (hl : l.stackTraces = false) (C : Cn X k0 p l R s m meth c cX8_hall RX8 3 2 22) (hr : meth.sig.returnType = (some .int)) (hnm : meth.name = yX8_hall.name) (htab : ∀ x ∈ c.exceptionTable.toList, False)  {x1 : Int32} {x2 : Int32} {S : Sg} (h : w_X8_hall_21  Qa x1 x2 S) : V X p l e R s m args below meth c 3 (QM X below args s S0 ad0 rvI Qa) S0 ad0 S 21 [(0, Value.ref (enc 12 0)), (1, Value.int x1), (2, Value.int x2)] [Value.ref (enc 12 0)] := by
  refine V_iconst (pc := 21) C (v := 1) dX8_hall_21 rfl ?_
  refine V_goto (pc := 22) (tgt := 38) C dX8_hall_22 (by decide) ?_
  refine V_sub [0, 1, 2] rfl ?_
  exact k_X8_hall_38 hT hl C hr hnm htab  h
def w_X8_hall (a1 : Int32) (a2 : Int32) (S : Sg) (Q : Nat → Int32 → Sg → Prop) : Prop := (w_X8_isIn a1 1 6 S (fun k10 v9 S8 => (k10 = 0 → ((v9 = 0 → w_X8_hall_21  Q a1 a2 S8) ∧ (¬ v9 = 0 → (w_X8_isIn a2 1 8 S8 (fun k13 v12 S11 => (k13 = 0 → ((v12 = 0 → w_X8_hall_21  Q a1 a2 S11) ∧ (¬ v12 = 0 → (((S11.1 302 0) = 4 → w_X8_hall_38  Q a1 a2 2 S11) ∧ (¬ (S11.1 302 0) = 4 → w_X8_hall_38  Q a1 a2 0 S11))))) ∧ (¬ k13 = 0 → Q k13 0 S11)))))) ∧ (¬ k10 = 0 → Q k10 0 S8)))
theorem ct_X8_hall (hT : xT X = tb1) (hl : l.stackTraces = false) {a1 : Int32} {a2 : Int32} {S : Sg} (h : w_X8_hall a1 a2 S Qa) : CT X k0 l yX8_hall cX8_hall 3 (some .int) 2 22 [Value.ref (enc 12 0), Value.int a1, Value.int a2] rvI S Qa :=
  CT_ofV (own := RX8) (by decide +kernel) (le8 rfl) rfl hl fun p e R s m args below meth c ad0 C hr hnm htab => by
    refine V_aload_n (pc := 0) C dX8_hall_0 rfl 0 rfl ?_
    refine V_iload_n (pc := 1) C dX8_hall_1 rfl 1 rfl ?_
    refine V_iconst (pc := 2) C (v := 1) dX8_hall_2 rfl ?_
    refine V_bipush (pc := 3) C (v := 6) dX8_hall_3 rfl ?_
    refine V_callS (pc := 5) C (ct_X8_isIn hT hl h) g1117 g1118 g1119 g64 ⟨by decide, by decide, pl_X8_isIn⟩ ⟨by decide, by decide⟩ (rest := [Value.ref (enc 12 0)]) rfl (le8 rfl) dX8_hall_5 (fun v9 S8 h => ?_) (fun k9 S9 hk h => VX_out C htab hk (h.2 (by omega)))
    replace h := h.1 rfl
    refine V_st (st' := [Value.int v9, Value.ref (enc 12 0)]) rfl ?_
    refine V_if_eq (pc := 8) (tgt := 21) C dX8_hall_8 (by decide) h (fun h => ?_) (fun h => ?_)
    · refine V_sub [0, 1, 2] rfl ?_
      exact k_X8_hall_21 hT hl C hr hnm htab  h
    · refine V_iload_n (pc := 11) C dX8_hall_11 rfl 2 rfl ?_
      refine V_iconst (pc := 12) C (v := 1) dX8_hall_12 rfl ?_
      refine V_bipush (pc := 13) C (v := 8) dX8_hall_13 rfl ?_
      refine V_callS (pc := 15) C (ct_X8_isIn hT hl h) g1117 g1118 g1119 g64 ⟨by decide, by decide, pl_X8_isIn⟩ ⟨by decide, by decide⟩ (rest := [Value.ref (enc 12 0)]) rfl (le8 rfl) dX8_hall_15 (fun v12 S11 h => ?_) (fun k9 S9 hk h => VX_out C htab hk (h.2 (by omega)))
      replace h := h.1 rfl
      refine V_st (st' := [Value.int v12, Value.ref (enc 12 0)]) rfl ?_
      refine V_if_ne (pc := 18) (tgt := 25) C dX8_hall_18 (by decide) h (fun h => ?_) (fun h => ?_)
      · refine V_aload_n (pc := 25) C dX8_hall_25 rfl 0 rfl ?_
        refine V_getI (pc := 26) C hT f1_X8_2 g980 dX8_hall_26 ?_
        refine V_iconst (pc := 29) C (v := 4) dX8_hall_29 rfl ?_
        refine V_icmp_ne (pc := 30) (tgt := 37) C dX8_hall_30 (by decide) h (fun h => ?_) (fun h => ?_)
        · refine V_iconst (pc := 37) C (v := 0) dX8_hall_37 rfl ?_
          refine V_sub [0, 1, 2] rfl ?_
          exact k_X8_hall_38 hT hl C hr hnm htab  h
        · refine V_iconst (pc := 33) C (v := 2) dX8_hall_33 rfl ?_
          refine V_goto (pc := 34) (tgt := 38) C dX8_hall_34 (by decide) ?_
          refine V_sub [0, 1, 2] rfl ?_
          exact k_X8_hall_38 hT hl C hr hnm htab  h
      · refine V_sub [0, 1, 2] rfl ?_
        exact k_X8_hall_21 hT hl C hr hnm htab  h
theorem pl_X8_lamp : (parseMethodDescriptor yX8_lamp.desc).map (fun d => d.parameters.length) = some 3 := by decide +kernel
def w_X8_lamp_66  (Q : Nat → Int32 → Sg → Prop) (x4 : Int32) (y0 : Int32) (y1 : Int32) (S : Sg) : Prop := (vp_in y1 4 ∧ (∀ S1, S1 = su S 105 (nt y1) y0 → Q 0 x4 S1))
theorem k_X8_lamp_66 (hT : xT X = tb1) (hl : l.stackTraces = false) (C : Cn X k0 p l R s m meth c cX8_lamp RX8 5 3 43) (hr : meth.sig.returnType = (some .int)) (hnm : meth.name = yX8_lamp.name) (htab : ∀ x ∈ c.exceptionTable.toList, False)  {x4 : Int32} {y0 : Int32} {y1 : Int32} {S : Sg} (h : w_X8_lamp_66  Qa x4 y0 y1 S) : V X p l e R s m args below meth c 5 (QM X below args s S0 ad0 rvI Qa) S0 ad0 S 66 [(4, Value.int x4)] [Value.int y0, Value.int y1, Value.ref (enc 13 5)] := by
  refine V_mst (pc := 66) C hT tb1_arr (n := 4) (c9 := 105) (by decide) rfl rfl rfl h dX8_lamp_66 (fun h => V_nx fun S1 e9 => ?_)
  replace h := h S1 e9; clear e9
  refine V_iload (pc := 67) C dX8_lamp_67 0 rfl ?_
  exact V_iret (pc := 69) C hr rfl h dX8_lamp_69
def w_X8_lamp_28  (Q : Nat → Int32 → Sg → Prop) (x1 : Int32) (x2 : Int32) (x3 : Int32) (y0 : Int32) (S : Sg) : Prop := (w_X8_fails y0 S (fun k4 v3 S2 => (k4 = 0 → ((v3 = 0 → (vp_in x1 4 ∧ (∀ v5, v5 = S2.1 105 (nt x1) → (vp_in x1 4 ∧ (∀ S6, S6 = su S2 106 (nt x1) x2 → ((x3 = 0 → w_X8_lamp_66  Q v5 v5 x1 S6) ∧ (¬ x3 = 0 → w_X8_lamp_66  Q v5 0 x1 S6))))))) ∧ (¬ v3 = 0 → Q 0 0 S2))) ∧ (¬ k4 = 0 → Q k4 0 S2)))
theorem k_X8_lamp_28 (hT : xT X = tb1) (hl : l.stackTraces = false) (C : Cn X k0 p l R s m meth c cX8_lamp RX8 5 3 43) (hr : meth.sig.returnType = (some .int)) (hnm : meth.name = yX8_lamp.name) (htab : ∀ x ∈ c.exceptionTable.toList, False)  {x1 : Int32} {x2 : Int32} {x3 : Int32} {y0 : Int32} {S : Sg} (h : w_X8_lamp_28  Qa x1 x2 x3 y0 S) : V X p l e R s m args below meth c 5 (QM X below args s S0 ad0 rvI Qa) S0 ad0 S 28 [(0, Value.ref (enc 12 0)), (1, Value.int x1), (2, Value.int x2), (3, Value.int x3)] [Value.int y0, Value.ref (enc 12 0)] := by
  refine V_callV (pc := 28) C (ct_X8_fails hT hl h) g1120 g1122 g32 g1123 g64 ⟨by decide, by decide, pl_X8_fails⟩ (enc_ne63 (by decide)) (ct_obj hT rfl (by decide)) rfl ⟨by decide, by decide⟩ (rest := []) rfl (le8 rfl) dX8_lamp_28 (fun v3 S2 h => ?_) (fun k9 S9 hk h => VX_out C htab hk (h.2 (by omega)))
  replace h := h.1 rfl
  refine V_st (st' := [Value.int v3]) rfl ?_
  refine V_if_eq (pc := 31) (tgt := 36) C dX8_lamp_31 (by decide) h (fun h => ?_) (fun h => ?_)
  · refine V_aload_n (pc := 36) C dX8_lamp_36 rfl 0 rfl ?_
    refine V_getF (pc := 37) C hT f1_X8_5 g983 dX8_lamp_37 ?_
    refine V_iload_n (pc := 40) C dX8_lamp_40 rfl 1 rfl ?_
    refine V_mld (pc := 41) C hT tb1_arr (n := 4) (c9 := 105) rfl rfl rfl h dX8_lamp_41 (fun h => ?_)
    refine V_nI fun v5 e9 => ?_
    replace h := h v5 e9; clear e9
    refine V_istore (pc := 42) C dX8_lamp_42 (by decide) rfl ?_
    refine V_aload_n (pc := 44) C dX8_lamp_44 rfl 1 rfl ?_
    refine V_getF (pc := 45) C hT f1_X8_6 g984 dX8_lamp_45 ?_
    refine V_iload_n (pc := 48) C dX8_lamp_48 rfl 2 rfl ?_
    refine V_iload_n (pc := 49) C dX8_lamp_49 rfl 3 rfl ?_
    refine V_mst (pc := 50) C hT tb1_arr (n := 4) (c9 := 106) (by decide) rfl rfl rfl h dX8_lamp_50 (fun h => V_nx fun S6 e9 => ?_)
    replace h := h S6 e9; clear e9
    refine V_aload_n (pc := 51) C dX8_lamp_51 rfl 1 rfl ?_
    refine V_getF (pc := 52) C hT f1_X8_5 g983 dX8_lamp_52 ?_
    refine V_iload_n (pc := 55) C dX8_lamp_55 rfl 2 rfl ?_
    refine V_iload_n (pc := 56) C dX8_lamp_56 rfl 4 rfl ?_
    refine V_if_eq (pc := 57) (tgt := 64) C dX8_lamp_57 (by decide) h (fun h => ?_) (fun h => ?_)
    · refine V_iload (pc := 64) C dX8_lamp_64 0 rfl ?_
      refine V_sub [0] rfl ?_
      exact k_X8_lamp_66 hT hl C hr hnm htab  h
    · refine V_iconst (pc := 60) C (v := 0) dX8_lamp_60 rfl ?_
      refine V_goto (pc := 61) (tgt := 66) C dX8_lamp_61 (by decide) ?_
      refine V_sub [0] rfl ?_
      exact k_X8_lamp_66 hT hl C hr hnm htab  h
  · refine V_iconst (pc := 34) C (v := 0) dX8_lamp_34 rfl ?_
    exact V_iret (pc := 35) C hr rfl h dX8_lamp_35
def w_X8_lamp (a1 : Int32) (a2 : Int32) (a3 : Int32) (S : Sg) (Q : Nat → Int32 → Sg → Prop) : Prop := (w_X8_isHall a1 S (fun k9 v8 S7 => (k9 = 0 → ((v8 = 0 → w_X8_lamp_28  Q a1 a2 a3 1 S7) ∧ (¬ v8 = 0 → (w_X8_isIn a2 1 100000 S7 (fun k12 v11 S10 => (k12 = 0 → ((v11 = 0 → w_X8_lamp_28  Q a1 a2 a3 2 S10) ∧ (¬ v11 = 0 → w_X8_lamp_28  Q a1 a2 a3 0 S10))) ∧ (¬ k12 = 0 → Q k12 0 S10)))))) ∧ (¬ k9 = 0 → Q k9 0 S7)))
theorem ct_X8_lamp (hT : xT X = tb1) (hl : l.stackTraces = false) {a1 : Int32} {a2 : Int32} {a3 : Int32} {S : Sg} (h : w_X8_lamp a1 a2 a3 S Qa) : CT X k0 l yX8_lamp cX8_lamp 5 (some .int) 3 43 [Value.ref (enc 12 0), Value.int a1, Value.int a2, Value.int a3] rvI S Qa :=
  CT_ofV (own := RX8) (by decide +kernel) (le8 rfl) rfl hl fun p e R s m args below meth c ad0 C hr hnm htab => by
    refine V_aload_n (pc := 0) C dX8_lamp_0 rfl 0 rfl ?_
    refine V_aload_n (pc := 1) C dX8_lamp_1 rfl 0 rfl ?_
    refine V_iload_n (pc := 2) C dX8_lamp_2 rfl 1 rfl ?_
    refine V_callV (pc := 3) C (ct_X8_isHall hT hl h) g1128 g1130 g33 g1131 g64 ⟨by decide, by decide, pl_X8_isHall⟩ (enc_ne63 (by decide)) (ct_obj hT rfl (by decide)) rfl ⟨by decide, by decide⟩ (rest := [Value.ref (enc 12 0)]) rfl (le8 rfl) dX8_lamp_3 (fun v8 S7 h => ?_) (fun k9 S9 hk h => VX_out C htab hk (h.2 (by omega)))
    replace h := h.1 rfl
    refine V_st (st' := [Value.int v8, Value.ref (enc 12 0)]) rfl ?_
    refine V_if_ne (pc := 6) (tgt := 13) C dX8_lamp_6 (by decide) h (fun h => ?_) (fun h => ?_)
    · refine V_iload_n (pc := 13) C dX8_lamp_13 rfl 2 rfl ?_
      refine V_iconst (pc := 14) C (v := 1) dX8_lamp_14 rfl ?_
      refine V_ldc (pc := 15) C g1132 dX8_lamp_15 ?_
      refine V_callS (pc := 17) C (ct_X8_isIn hT hl h) g1117 g1118 g1119 g64 ⟨by decide, by decide, pl_X8_isIn⟩ ⟨by decide, by decide⟩ (rest := [Value.ref (enc 12 0)]) rfl (le8 rfl) dX8_lamp_17 (fun v11 S10 h => ?_) (fun k9 S9 hk h => VX_out C htab hk (h.2 (by omega)))
      replace h := h.1 rfl
      refine V_st (st' := [Value.int v11, Value.ref (enc 12 0)]) rfl ?_
      refine V_if_eq (pc := 20) (tgt := 27) C dX8_lamp_20 (by decide) h (fun h => ?_) (fun h => ?_)
      · refine V_iconst (pc := 27) C (v := 2) dX8_lamp_27 rfl ?_
        refine V_sub [0, 1, 2, 3] rfl ?_
        exact k_X8_lamp_28 hT hl C hr hnm htab  h
      · refine V_iconst (pc := 23) C (v := 0) dX8_lamp_23 rfl ?_
        refine V_goto (pc := 24) (tgt := 28) C dX8_lamp_24 (by decide) ?_
        refine V_sub [0, 1, 2, 3] rfl ?_
        exact k_X8_lamp_28 hT hl C hr hnm htab  h
    · refine V_iconst (pc := 9) C (v := 1) dX8_lamp_9 rfl ?_
      refine V_goto (pc := 10) (tgt := 28) C dX8_lamp_10 (by decide) ?_
      refine V_sub [0, 1, 2, 3] rfl ?_
      exact k_X8_lamp_28 hT hl C hr hnm htab  h
theorem pl_X8_film : (parseMethodDescriptor yX8_film.desc).map (fun d => d.parameters.length) = some 3 := by decide +kernel
def w_X8_film_64  (Q : Nat → Int32 → Sg → Prop) (x1 : Int32) (x2 : Int32) (x3 : Int32) (y0 : Int32) (S : Sg) : Prop := (w_X8_fails y0 S (fun k3 v2 S1 => (k3 = 0 → ((v2 = 0 → (vp_in (S1.1 307 0) 8 ∧ (∀ S4, S4 = su S1 108 (nt (S1.1 307 0)) x1 → (vp_in (S4.1 307 0) 8 ∧ (∀ S5, S5 = su S4 109 (nt (S4.1 307 0)) x2 → (vp_in (S5.1 307 0) 8 ∧ (∀ S6, S6 = su S5 110 (nt (S5.1 307 0)) x3 → (vp_in (S6.1 307 0) 8 ∧ (∀ S7, S7 = su S6 111 (nt (S6.1 307 0)) 50 → (vp_in (S7.1 307 0) 8 ∧ (∀ S8, S8 = su S7 113 (nt (S7.1 307 0)) 50 → (∀ S9, S9 = su S8 307 0 ((S8.1 307 0) + 1) → Q 0 ((S9.1 307 0) - 1) S9)))))))))))) ∧ (¬ v2 = 0 → Q 0 0 S1))) ∧ (¬ k3 = 0 → Q k3 0 S1)))
theorem k_X8_film_64 (hT : xT X = tb1) (hl : l.stackTraces = false) (C : Cn X k0 p l R s m meth c cX8_film RX8 5 2 22) (hr : meth.sig.returnType = (some .int)) (hnm : meth.name = yX8_film.name) (htab : ∀ x ∈ c.exceptionTable.toList, False)  {x1 : Int32} {x2 : Int32} {x3 : Int32} {y0 : Int32} {S : Sg} (h : w_X8_film_64  Qa x1 x2 x3 y0 S) : V X p l e R s m args below meth c 5 (QM X below args s S0 ad0 rvI Qa) S0 ad0 S 64 [(0, Value.ref (enc 12 0)), (1, Value.int x1), (2, Value.int x2), (3, Value.int x3)] [Value.int y0, Value.ref (enc 12 0)] := by
  refine V_callV (pc := 64) C (ct_X8_fails hT hl h) g1120 g1122 g32 g1123 g64 ⟨by decide, by decide, pl_X8_fails⟩ (enc_ne63 (by decide)) (ct_obj hT rfl (by decide)) rfl ⟨by decide, by decide⟩ (rest := []) rfl (le8 rfl) dX8_film_64 (fun v2 S1 h => ?_) (fun k9 S9 hk h => VX_out C htab hk (h.2 (by omega)))
  replace h := h.1 rfl
  refine V_st (st' := [Value.int v2]) rfl ?_
  refine V_if_eq (pc := 67) (tgt := 72) C dX8_film_67 (by decide) h (fun h => ?_) (fun h => ?_)
  · refine V_aload_n (pc := 72) C dX8_film_72 rfl 0 rfl ?_
    refine V_getF (pc := 73) C hT f1_X8_8 g986 dX8_film_73 ?_
    refine V_aload_n (pc := 76) C dX8_film_76 rfl 0 rfl ?_
    refine V_getI (pc := 77) C hT f1_X8_7 g985 dX8_film_77 ?_
    refine V_iload_n (pc := 80) C dX8_film_80 rfl 1 rfl ?_
    refine V_mst (pc := 81) C hT tb1_arr (n := 8) (c9 := 108) (by decide) rfl rfl rfl h dX8_film_81 (fun h => V_nx fun S4 e9 => ?_)
    replace h := h S4 e9; clear e9
    refine V_aload_n (pc := 82) C dX8_film_82 rfl 0 rfl ?_
    refine V_getF (pc := 83) C hT f1_X8_9 g987 dX8_film_83 ?_
    refine V_aload_n (pc := 86) C dX8_film_86 rfl 0 rfl ?_
    refine V_getI (pc := 87) C hT f1_X8_7 g985 dX8_film_87 ?_
    refine V_iload_n (pc := 90) C dX8_film_90 rfl 2 rfl ?_
    refine V_mst (pc := 91) C hT tb1_arr (n := 8) (c9 := 109) (by decide) rfl rfl rfl h dX8_film_91 (fun h => V_nx fun S5 e9 => ?_)
    replace h := h S5 e9; clear e9
    refine V_aload_n (pc := 92) C dX8_film_92 rfl 0 rfl ?_
    refine V_getF (pc := 93) C hT f1_X8_10 g988 dX8_film_93 ?_
    refine V_aload_n (pc := 96) C dX8_film_96 rfl 0 rfl ?_
    refine V_getI (pc := 97) C hT f1_X8_7 g985 dX8_film_97 ?_
    refine V_iload_n (pc := 100) C dX8_film_100 rfl 3 rfl ?_
    refine V_mst (pc := 101) C hT tb1_arr (n := 8) (c9 := 110) (by decide) rfl rfl rfl h dX8_film_101 (fun h => V_nx fun S6 e9 => ?_)
    replace h := h S6 e9; clear e9
    refine V_aload_n (pc := 102) C dX8_film_102 rfl 0 rfl ?_
    refine V_getF (pc := 103) C hT f1_X8_11 g989 dX8_film_103 ?_
    refine V_aload_n (pc := 106) C dX8_film_106 rfl 0 rfl ?_
    refine V_getI (pc := 107) C hT f1_X8_7 g985 dX8_film_107 ?_
    refine V_bipush (pc := 110) C (v := 50) dX8_film_110 rfl ?_
    refine V_mst (pc := 112) C hT tb1_arr (n := 8) (c9 := 111) (by decide) rfl rfl rfl h dX8_film_112 (fun h => V_nx fun S7 e9 => ?_)
    replace h := h S7 e9; clear e9
    refine V_aload_n (pc := 113) C dX8_film_113 rfl 0 rfl ?_
    refine V_getF (pc := 114) C hT f1_X8_13 g991 dX8_film_114 ?_
    refine V_aload_n (pc := 117) C dX8_film_117 rfl 0 rfl ?_
    refine V_getI (pc := 118) C hT f1_X8_7 g985 dX8_film_118 ?_
    refine V_bipush (pc := 121) C (v := 50) dX8_film_121 rfl ?_
    refine V_mst (pc := 123) C hT tb1_arr (n := 8) (c9 := 113) (by decide) rfl rfl rfl h dX8_film_123 (fun h => V_nx fun S8 e9 => ?_)
    replace h := h S8 e9; clear e9
    refine V_aload_n (pc := 124) C dX8_film_124 rfl 0 rfl ?_
    refine V_dup (pc := 125) C dX8_film_125 rfl ?_
    refine V_getI (pc := 126) C hT f1_X8_7 g985 dX8_film_126 ?_
    refine V_iconst (pc := 129) C (v := 1) dX8_film_129 rfl ?_
    refine V_iadd (pc := 130) C dX8_film_130 ?_
    refine V_putI (pc := 131) C hT tb1_ok f1_X8_7 (by unfold lc; decide) g985 (Or.inl rfl) (Or.inl rfl) dX8_film_131 (V_nx fun S9 e9 => ?_)
    replace h := h S9 e9; clear e9
    refine V_aload_n (pc := 134) C dX8_film_134 rfl 0 rfl ?_
    refine V_getI (pc := 135) C hT f1_X8_7 g985 dX8_film_135 ?_
    refine V_iconst (pc := 138) C (v := 1) dX8_film_138 rfl ?_
    refine V_isub (pc := 139) C dX8_film_139 ?_
    exact V_iret (pc := 140) C hr rfl h dX8_film_140
  · refine V_iconst (pc := 70) C (v := 0) dX8_film_70 rfl ?_
    exact V_iret (pc := 71) C hr rfl h dX8_film_71
def w_X8_film_38  (Q : Nat → Int32 → Sg → Prop) (x1 : Int32) (x2 : Int32) (x3 : Int32) (y0 : Int32) (S : Sg) : Prop := ((y0 = 0 → w_X8_film_64  Q x1 x2 x3 1 S) ∧ (¬ y0 = 0 → (((S.1 307 0) = 8 → w_X8_film_64  Q x1 x2 x3 2 S) ∧ (¬ (S.1 307 0) = 8 → w_X8_film_64  Q x1 x2 x3 0 S))))
theorem k_X8_film_38 (hT : xT X = tb1) (hl : l.stackTraces = false) (C : Cn X k0 p l R s m meth c cX8_film RX8 5 2 22) (hr : meth.sig.returnType = (some .int)) (hnm : meth.name = yX8_film.name) (htab : ∀ x ∈ c.exceptionTable.toList, False)  {x1 : Int32} {x2 : Int32} {x3 : Int32} {y0 : Int32} {S : Sg} (h : w_X8_film_38  Qa x1 x2 x3 y0 S) : V X p l e R s m args below meth c 5 (QM X below args s S0 ad0 rvI Qa) S0 ad0 S 38 [(0, Value.ref (enc 12 0)), (1, Value.int x1), (2, Value.int x2), (3, Value.int x3)] [Value.int y0] := by
  refine V_istore (pc := 38) C dX8_film_38 (by decide) rfl ?_
  refine V_aload_n (pc := 40) C dX8_film_40 rfl 1 rfl ?_
  refine V_iload (pc := 41) C dX8_film_41 0 rfl ?_
  refine V_if_ne (pc := 43) (tgt := 50) C dX8_film_43 (by decide) h (fun h => ?_) (fun h => ?_)
  · refine V_aload_n (pc := 50) C dX8_film_50 rfl 1 rfl ?_
    refine V_getI (pc := 51) C hT f1_X8_7 g985 dX8_film_51 ?_
    refine V_bipush (pc := 54) C (v := 8) dX8_film_54 rfl ?_
    refine V_icmp_ne (pc := 56) (tgt := 63) C dX8_film_56 (by decide) h (fun h => ?_) (fun h => ?_)
    · refine V_iconst (pc := 63) C (v := 0) dX8_film_63 rfl ?_
      refine V_sub [1, 2, 3, 4] rfl ?_
      exact k_X8_film_64 hT hl C hr hnm htab  h
    · refine V_iconst (pc := 59) C (v := 2) dX8_film_59 rfl ?_
      refine V_goto (pc := 60) (tgt := 64) C dX8_film_60 (by decide) ?_
      refine V_sub [1, 2, 3, 4] rfl ?_
      exact k_X8_film_64 hT hl C hr hnm htab  h
  · refine V_iconst (pc := 46) C (v := 1) dX8_film_46 rfl ?_
    refine V_goto (pc := 47) (tgt := 64) C dX8_film_47 (by decide) ?_
    refine V_sub [1, 2, 3, 4] rfl ?_
    exact k_X8_film_64 hT hl C hr hnm htab  h
def w_X8_film_37  (Q : Nat → Int32 → Sg → Prop) (x1 : Int32) (x2 : Int32) (x3 : Int32) (S : Sg) : Prop := w_X8_film_38  Q x1 x2 x3 0 S
theorem k_X8_film_37 (hT : xT X = tb1) (hl : l.stackTraces = false) (C : Cn X k0 p l R s m meth c cX8_film RX8 5 2 22) (hr : meth.sig.returnType = (some .int)) (hnm : meth.name = yX8_film.name) (htab : ∀ x ∈ c.exceptionTable.toList, False)  {x1 : Int32} {x2 : Int32} {x3 : Int32} {S : Sg} (h : w_X8_film_37  Qa x1 x2 x3 S) : V X p l e R s m args below meth c 5 (QM X below args s S0 ad0 rvI Qa) S0 ad0 S 37 [(0, Value.ref (enc 12 0)), (1, Value.int x1), (2, Value.int x2), (3, Value.int x3)] [] := by
  refine V_iconst (pc := 37) C (v := 0) dX8_film_37 rfl ?_
  refine V_sub [0, 1, 2, 3] rfl ?_
  exact k_X8_film_38 hT hl C hr hnm htab  h
def w_X8_film (a1 : Int32) (a2 : Int32) (a3 : Int32) (S : Sg) (Q : Nat → Int32 → Sg → Prop) : Prop := (w_X8_isIn a1 30 240 S (fun k12 v11 S10 => (k12 = 0 → ((v11 = 0 → w_X8_film_37  Q a1 a2 a3 S10) ∧ (¬ v11 = 0 → (w_X8_isIn a2 0 18 S10 (fun k15 v14 S13 => (k15 = 0 → ((v14 = 0 → w_X8_film_37  Q a1 a2 a3 S13) ∧ (¬ v14 = 0 → (w_X8_isIn a3 1 999 S13 (fun k18 v17 S16 => (k18 = 0 → ((v17 = 0 → w_X8_film_37  Q a1 a2 a3 S16) ∧ (¬ v17 = 0 → w_X8_film_38  Q a1 a2 a3 1 S16))) ∧ (¬ k18 = 0 → Q k18 0 S16)))))) ∧ (¬ k15 = 0 → Q k15 0 S13)))))) ∧ (¬ k12 = 0 → Q k12 0 S10)))
theorem ct_X8_film (hT : xT X = tb1) (hl : l.stackTraces = false) {a1 : Int32} {a2 : Int32} {a3 : Int32} {S : Sg} (h : w_X8_film a1 a2 a3 S Qa) : CT X k0 l yX8_film cX8_film 5 (some .int) 2 22 [Value.ref (enc 12 0), Value.int a1, Value.int a2, Value.int a3] rvI S Qa :=
  CT_ofV (own := RX8) (by decide +kernel) (le8 rfl) rfl hl fun p e R s m args below meth c ad0 C hr hnm htab => by
    refine V_iload_n (pc := 0) C dX8_film_0 rfl 1 rfl ?_
    refine V_bipush (pc := 1) C (v := 30) dX8_film_1 rfl ?_
    refine V_sipush (pc := 3) C (v := 240) dX8_film_3 rfl ?_
    refine V_callS (pc := 6) C (ct_X8_isIn hT hl h) g1117 g1118 g1119 g64 ⟨by decide, by decide, pl_X8_isIn⟩ ⟨by decide, by decide⟩ (rest := []) rfl (le8 rfl) dX8_film_6 (fun v11 S10 h => ?_) (fun k9 S9 hk h => VX_out C htab hk (h.2 (by omega)))
    replace h := h.1 rfl
    refine V_st (st' := [Value.int v11]) rfl ?_
    refine V_if_eq (pc := 9) (tgt := 37) C dX8_film_9 (by decide) h (fun h => ?_) (fun h => ?_)
    · refine V_sub [0, 1, 2, 3] rfl ?_
      exact k_X8_film_37 hT hl C hr hnm htab  h
    · refine V_iload_n (pc := 12) C dX8_film_12 rfl 2 rfl ?_
      refine V_iconst (pc := 13) C (v := 0) dX8_film_13 rfl ?_
      refine V_bipush (pc := 14) C (v := 18) dX8_film_14 rfl ?_
      refine V_callS (pc := 16) C (ct_X8_isIn hT hl h) g1117 g1118 g1119 g64 ⟨by decide, by decide, pl_X8_isIn⟩ ⟨by decide, by decide⟩ (rest := []) rfl (le8 rfl) dX8_film_16 (fun v14 S13 h => ?_) (fun k9 S9 hk h => VX_out C htab hk (h.2 (by omega)))
      replace h := h.1 rfl
      refine V_st (st' := [Value.int v14]) rfl ?_
      refine V_if_eq (pc := 19) (tgt := 37) C dX8_film_19 (by decide) h (fun h => ?_) (fun h => ?_)
      · refine V_sub [0, 1, 2, 3] rfl ?_
        exact k_X8_film_37 hT hl C hr hnm htab  h
      · refine V_iload_n (pc := 22) C dX8_film_22 rfl 3 rfl ?_
        refine V_iconst (pc := 23) C (v := 1) dX8_film_23 rfl ?_
        refine V_sipush (pc := 24) C (v := 999) dX8_film_24 rfl ?_
        refine V_callS (pc := 27) C (ct_X8_isIn hT hl h) g1117 g1118 g1119 g64 ⟨by decide, by decide, pl_X8_isIn⟩ ⟨by decide, by decide⟩ (rest := []) rfl (le8 rfl) dX8_film_27 (fun v17 S16 h => ?_) (fun k9 S9 hk h => VX_out C htab hk (h.2 (by omega)))
        replace h := h.1 rfl
        refine V_st (st' := [Value.int v17]) rfl ?_
        refine V_if_eq (pc := 30) (tgt := 37) C dX8_film_30 (by decide) h (fun h => ?_) (fun h => ?_)
        · refine V_sub [0, 1, 2, 3] rfl ?_
          exact k_X8_film_37 hT hl C hr hnm htab  h
        · refine V_iconst (pc := 33) C (v := 1) dX8_film_33 rfl ?_
          refine V_goto (pc := 34) (tgt := 38) C dX8_film_34 (by decide) ?_
          refine V_sub [0, 1, 2, 3] rfl ?_
          exact k_X8_film_38 hT hl C hr hnm htab  h
theorem pl_X8_terms : (parseMethodDescriptor yX8_terms.desc).map (fun d => d.parameters.length) = some 6 := by decide +kernel
def w_X8_terms_83  (Q : Nat → Int32 → Sg → Prop) (x1 : Int32) (x2 : Int32) (x3 : Int32) (x4 : Int32) (x5 : Int32) (x6 : Int32) (y0 : Int32) (S : Sg) : Prop := (w_X8_fails y0 S (fun k3 v2 S1 => (k3 = 0 → ((v2 = 0 → (vp_in x1 8 ∧ (∀ S4, S4 = su S1 111 (nt x1) x2 → (vp_in x1 8 ∧ (∀ S5, S5 = su S4 112 (nt x1) x3 → (vp_in x1 8 ∧ (∀ S6, S6 = su S5 113 (nt x1) x4 → (vp_in x1 8 ∧ (∀ S7, S7 = su S6 114 (nt x1) x5 → (vp_in x1 8 ∧ (∀ S8, S8 = su S7 115 (nt x1) x6 → Q 0 0 S8))))))))))) ∧ (¬ v2 = 0 → Q 0 0 S1))) ∧ (¬ k3 = 0 → Q k3 0 S1)))
theorem k_X8_terms_83 (hT : xT X = tb1) (hl : l.stackTraces = false) (C : Cn X k0 p l R s m meth c cX8_terms RX8 8 3 43) (hr : meth.sig.returnType = none) (hnm : meth.name = yX8_terms.name) (htab : ∀ x ∈ c.exceptionTable.toList, False)  {x1 : Int32} {x2 : Int32} {x3 : Int32} {x4 : Int32} {x5 : Int32} {x6 : Int32} {y0 : Int32} {S : Sg} (h : w_X8_terms_83  Qa x1 x2 x3 x4 x5 x6 y0 S) : V X p l e R s m args below meth c 8 (QM X below args s S0 ad0 rvV Qa) S0 ad0 S 83 [(0, Value.ref (enc 12 0)), (1, Value.int x1), (2, Value.int x2), (3, Value.int x3), (4, Value.int x4), (5, Value.int x5), (6, Value.int x6)] [Value.int y0, Value.ref (enc 12 0)] := by
  refine V_callV (pc := 83) C (ct_X8_fails hT hl h) g1120 g1122 g32 g1123 g64 ⟨by decide, by decide, pl_X8_fails⟩ (enc_ne63 (by decide)) (ct_obj hT rfl (by decide)) rfl ⟨by decide, by decide⟩ (rest := []) rfl (le8 rfl) dX8_terms_83 (fun v2 S1 h => ?_) (fun k9 S9 hk h => VX_out C htab hk (h.2 (by omega)))
  replace h := h.1 rfl
  refine V_st (st' := [Value.int v2]) rfl ?_
  refine V_if_ne (pc := 86) (tgt := 127) C dX8_terms_86 (by decide) h (fun h => ?_) (fun h => ?_)
  · exact V_vret (pc := 127) C hr rfl h dX8_terms_127
  · refine V_aload_n (pc := 89) C dX8_terms_89 rfl 0 rfl ?_
    refine V_getF (pc := 90) C hT f1_X8_11 g989 dX8_terms_90 ?_
    refine V_iload_n (pc := 93) C dX8_terms_93 rfl 1 rfl ?_
    refine V_iload_n (pc := 94) C dX8_terms_94 rfl 2 rfl ?_
    refine V_mst (pc := 95) C hT tb1_arr (n := 8) (c9 := 111) (by decide) rfl rfl rfl h dX8_terms_95 (fun h => V_nx fun S4 e9 => ?_)
    replace h := h S4 e9; clear e9
    refine V_aload_n (pc := 96) C dX8_terms_96 rfl 0 rfl ?_
    refine V_getF (pc := 97) C hT f1_X8_12 g990 dX8_terms_97 ?_
    refine V_iload_n (pc := 100) C dX8_terms_100 rfl 1 rfl ?_
    refine V_iload_n (pc := 101) C dX8_terms_101 rfl 3 rfl ?_
    refine V_mst (pc := 102) C hT tb1_arr (n := 8) (c9 := 112) (by decide) rfl rfl rfl h dX8_terms_102 (fun h => V_nx fun S5 e9 => ?_)
    replace h := h S5 e9; clear e9
    refine V_aload_n (pc := 103) C dX8_terms_103 rfl 0 rfl ?_
    refine V_getF (pc := 104) C hT f1_X8_13 g991 dX8_terms_104 ?_
    refine V_iload_n (pc := 107) C dX8_terms_107 rfl 1 rfl ?_
    refine V_iload (pc := 108) C dX8_terms_108 4 rfl ?_
    refine V_mst (pc := 110) C hT tb1_arr (n := 8) (c9 := 113) (by decide) rfl rfl rfl h dX8_terms_110 (fun h => V_nx fun S6 e9 => ?_)
    replace h := h S6 e9; clear e9
    refine V_aload_n (pc := 111) C dX8_terms_111 rfl 0 rfl ?_
    refine V_getF (pc := 112) C hT f1_X8_14 g992 dX8_terms_112 ?_
    refine V_iload_n (pc := 115) C dX8_terms_115 rfl 1 rfl ?_
    refine V_iload (pc := 116) C dX8_terms_116 5 rfl ?_
    refine V_mst (pc := 118) C hT tb1_arr (n := 8) (c9 := 114) (by decide) rfl rfl rfl h dX8_terms_118 (fun h => V_nx fun S7 e9 => ?_)
    replace h := h S7 e9; clear e9
    refine V_aload_n (pc := 119) C dX8_terms_119 rfl 0 rfl ?_
    refine V_getF (pc := 120) C hT f1_X8_15 g993 dX8_terms_120 ?_
    refine V_iload_n (pc := 123) C dX8_terms_123 rfl 1 rfl ?_
    refine V_iload (pc := 124) C dX8_terms_124 6 rfl ?_
    refine V_mst (pc := 126) C hT tb1_arr (n := 8) (c9 := 115) (by decide) rfl rfl rfl h dX8_terms_126 (fun h => V_nx fun S8 e9 => ?_)
    replace h := h S8 e9; clear e9
    exact V_vret (pc := 127) C hr rfl h dX8_terms_127
def w_X8_terms_58  (Q : Nat → Int32 → Sg → Prop) (x1 : Int32) (x2 : Int32) (x3 : Int32) (x4 : Int32) (x5 : Int32) (x6 : Int32) (y0 : Int32) (S : Sg) : Prop := (w_X8_isFilm x1 S (fun k11 v10 S9 => (k11 = 0 → ((v10 = 0 → w_X8_terms_83  Q x1 x2 x3 x4 x5 x6 1 S9) ∧ (¬ v10 = 0 → ((y0 = 0 → w_X8_terms_83  Q x1 x2 x3 x4 x5 x6 2 S9) ∧ (¬ y0 = 0 → w_X8_terms_83  Q x1 x2 x3 x4 x5 x6 0 S9))))) ∧ (¬ k11 = 0 → Q k11 0 S9)))
theorem k_X8_terms_58 (hT : xT X = tb1) (hl : l.stackTraces = false) (C : Cn X k0 p l R s m meth c cX8_terms RX8 8 3 43) (hr : meth.sig.returnType = none) (hnm : meth.name = yX8_terms.name) (htab : ∀ x ∈ c.exceptionTable.toList, False)  {x1 : Int32} {x2 : Int32} {x3 : Int32} {x4 : Int32} {x5 : Int32} {x6 : Int32} {y0 : Int32} {S : Sg} (h : w_X8_terms_58  Qa x1 x2 x3 x4 x5 x6 y0 S) : V X p l e R s m args below meth c 8 (QM X below args s S0 ad0 rvV Qa) S0 ad0 S 58 [(0, Value.ref (enc 12 0)), (1, Value.int x1), (2, Value.int x2), (3, Value.int x3), (4, Value.int x4), (5, Value.int x5), (6, Value.int x6)] [Value.int y0] := by
  refine V_istore (pc := 58) C dX8_terms_58 (by decide) rfl ?_
  refine V_aload_n (pc := 60) C dX8_terms_60 rfl 1 rfl ?_
  refine V_aload_n (pc := 61) C dX8_terms_61 rfl 1 rfl ?_
  refine V_iload_n (pc := 62) C dX8_terms_62 rfl 2 rfl ?_
  refine V_callV (pc := 63) C (ct_X8_isFilm hT hl h) g1141 g1143 g34 g1144 g64 ⟨by decide, by decide, pl_X8_isFilm⟩ (enc_ne63 (by decide)) (ct_obj hT rfl (by decide)) rfl ⟨by decide, by decide⟩ (rest := [Value.ref (enc 12 0)]) rfl (le8 rfl) dX8_terms_63 (fun v10 S9 h => ?_) (fun k9 S9 hk h => VX_out C htab hk (h.2 (by omega)))
  replace h := h.1 rfl
  refine V_st (st' := [Value.int v10, Value.ref (enc 12 0)]) rfl ?_
  refine V_if_ne (pc := 66) (tgt := 73) C dX8_terms_66 (by decide) h (fun h => ?_) (fun h => ?_)
  · refine V_iload (pc := 73) C dX8_terms_73 0 rfl ?_
    refine V_if_eq (pc := 75) (tgt := 82) C dX8_terms_75 (by decide) h (fun h => ?_) (fun h => ?_)
    · refine V_iconst (pc := 82) C (v := 2) dX8_terms_82 rfl ?_
      refine V_sub [1, 2, 3, 4, 5, 6, 7] rfl ?_
      exact k_X8_terms_83 hT hl C hr hnm htab  h
    · refine V_iconst (pc := 78) C (v := 0) dX8_terms_78 rfl ?_
      refine V_goto (pc := 79) (tgt := 83) C dX8_terms_79 (by decide) ?_
      refine V_sub [1, 2, 3, 4, 5, 6, 7] rfl ?_
      exact k_X8_terms_83 hT hl C hr hnm htab  h
  · refine V_iconst (pc := 69) C (v := 1) dX8_terms_69 rfl ?_
    refine V_goto (pc := 70) (tgt := 83) C dX8_terms_70 (by decide) ?_
    refine V_sub [1, 2, 3, 4, 5, 6, 7] rfl ?_
    exact k_X8_terms_83 hT hl C hr hnm htab  h
def w_X8_terms_57  (Q : Nat → Int32 → Sg → Prop) (x1 : Int32) (x2 : Int32) (x3 : Int32) (x4 : Int32) (x5 : Int32) (x6 : Int32) (S : Sg) : Prop := w_X8_terms_58  Q x1 x2 x3 x4 x5 x6 0 S
theorem k_X8_terms_57 (hT : xT X = tb1) (hl : l.stackTraces = false) (C : Cn X k0 p l R s m meth c cX8_terms RX8 8 3 43) (hr : meth.sig.returnType = none) (hnm : meth.name = yX8_terms.name) (htab : ∀ x ∈ c.exceptionTable.toList, False)  {x1 : Int32} {x2 : Int32} {x3 : Int32} {x4 : Int32} {x5 : Int32} {x6 : Int32} {S : Sg} (h : w_X8_terms_57  Qa x1 x2 x3 x4 x5 x6 S) : V X p l e R s m args below meth c 8 (QM X below args s S0 ad0 rvV Qa) S0 ad0 S 57 [(0, Value.ref (enc 12 0)), (1, Value.int x1), (2, Value.int x2), (3, Value.int x3), (4, Value.int x4), (5, Value.int x5), (6, Value.int x6)] [] := by
  refine V_iconst (pc := 57) C (v := 0) dX8_terms_57 rfl ?_
  refine V_sub [0, 1, 2, 3, 4, 5, 6] rfl ?_
  exact k_X8_terms_58 hT hl C hr hnm htab  h
def w_X8_terms (a1 : Int32) (a2 : Int32) (a3 : Int32) (a4 : Int32) (a5 : Int32) (a6 : Int32) (S : Sg) (Q : Nat → Int32 → Sg → Prop) : Prop := (w_X8_isIn a2 0 100 S (fun k14 v13 S12 => (k14 = 0 → ((v13 = 0 → w_X8_terms_57  Q a1 a2 a3 a4 a5 a6 S12) ∧ (¬ v13 = 0 → (w_X8_isIn a3 0 100 S12 (fun k17 v16 S15 => (k17 = 0 → ((v16 = 0 → w_X8_terms_57  Q a1 a2 a3 a4 a5 a6 S15) ∧ (¬ v16 = 0 → (w_X8_isIn a4 0 100 S15 (fun k20 v19 S18 => (k20 = 0 → ((v19 = 0 → w_X8_terms_57  Q a1 a2 a3 a4 a5 a6 S18) ∧ (¬ v19 = 0 → (w_X8_isIn a5 0 100000 S18 (fun k23 v22 S21 => (k23 = 0 → ((v22 = 0 → w_X8_terms_57  Q a1 a2 a3 a4 a5 a6 S21) ∧ (¬ v22 = 0 → (w_X8_isIn a6 0 100000 S21 (fun k26 v25 S24 => (k26 = 0 → ((v25 = 0 → w_X8_terms_57  Q a1 a2 a3 a4 a5 a6 S24) ∧ (¬ v25 = 0 → w_X8_terms_58  Q a1 a2 a3 a4 a5 a6 1 S24))) ∧ (¬ k26 = 0 → Q k26 0 S24)))))) ∧ (¬ k23 = 0 → Q k23 0 S21)))))) ∧ (¬ k20 = 0 → Q k20 0 S18)))))) ∧ (¬ k17 = 0 → Q k17 0 S15)))))) ∧ (¬ k14 = 0 → Q k14 0 S12)))
theorem ct_X8_terms (hT : xT X = tb1) (hl : l.stackTraces = false) {a1 : Int32} {a2 : Int32} {a3 : Int32} {a4 : Int32} {a5 : Int32} {a6 : Int32} {S : Sg} (h : w_X8_terms a1 a2 a3 a4 a5 a6 S Qa) : CT X k0 l yX8_terms cX8_terms 8 none 3 43 [Value.ref (enc 12 0), Value.int a1, Value.int a2, Value.int a3, Value.int a4, Value.int a5, Value.int a6] rvV S Qa :=
  CT_ofV (own := RX8) (by decide +kernel) (le8 rfl) rfl hl fun p e R s m args below meth c ad0 C hr hnm htab => by
    refine V_iload_n (pc := 0) C dX8_terms_0 rfl 2 rfl ?_
    refine V_iconst (pc := 1) C (v := 0) dX8_terms_1 rfl ?_
    refine V_bipush (pc := 2) C (v := 100) dX8_terms_2 rfl ?_
    refine V_callS (pc := 4) C (ct_X8_isIn hT hl h) g1117 g1118 g1119 g64 ⟨by decide, by decide, pl_X8_isIn⟩ ⟨by decide, by decide⟩ (rest := []) rfl (le8 rfl) dX8_terms_4 (fun v13 S12 h => ?_) (fun k9 S9 hk h => VX_out C htab hk (h.2 (by omega)))
    replace h := h.1 rfl
    refine V_st (st' := [Value.int v13]) rfl ?_
    refine V_if_eq (pc := 7) (tgt := 57) C dX8_terms_7 (by decide) h (fun h => ?_) (fun h => ?_)
    · refine V_sub [0, 1, 2, 3, 4, 5, 6] rfl ?_
      exact k_X8_terms_57 hT hl C hr hnm htab  h
    · refine V_iload_n (pc := 10) C dX8_terms_10 rfl 3 rfl ?_
      refine V_iconst (pc := 11) C (v := 0) dX8_terms_11 rfl ?_
      refine V_bipush (pc := 12) C (v := 100) dX8_terms_12 rfl ?_
      refine V_callS (pc := 14) C (ct_X8_isIn hT hl h) g1117 g1118 g1119 g64 ⟨by decide, by decide, pl_X8_isIn⟩ ⟨by decide, by decide⟩ (rest := []) rfl (le8 rfl) dX8_terms_14 (fun v16 S15 h => ?_) (fun k9 S9 hk h => VX_out C htab hk (h.2 (by omega)))
      replace h := h.1 rfl
      refine V_st (st' := [Value.int v16]) rfl ?_
      refine V_if_eq (pc := 17) (tgt := 57) C dX8_terms_17 (by decide) h (fun h => ?_) (fun h => ?_)
      · refine V_sub [0, 1, 2, 3, 4, 5, 6] rfl ?_
        exact k_X8_terms_57 hT hl C hr hnm htab  h
      · refine V_iload (pc := 20) C dX8_terms_20 4 rfl ?_
        refine V_iconst (pc := 22) C (v := 0) dX8_terms_22 rfl ?_
        refine V_bipush (pc := 23) C (v := 100) dX8_terms_23 rfl ?_
        refine V_callS (pc := 25) C (ct_X8_isIn hT hl h) g1117 g1118 g1119 g64 ⟨by decide, by decide, pl_X8_isIn⟩ ⟨by decide, by decide⟩ (rest := []) rfl (le8 rfl) dX8_terms_25 (fun v19 S18 h => ?_) (fun k9 S9 hk h => VX_out C htab hk (h.2 (by omega)))
        replace h := h.1 rfl
        refine V_st (st' := [Value.int v19]) rfl ?_
        refine V_if_eq (pc := 28) (tgt := 57) C dX8_terms_28 (by decide) h (fun h => ?_) (fun h => ?_)
        · refine V_sub [0, 1, 2, 3, 4, 5, 6] rfl ?_
          exact k_X8_terms_57 hT hl C hr hnm htab  h
        · refine V_iload (pc := 31) C dX8_terms_31 5 rfl ?_
          refine V_iconst (pc := 33) C (v := 0) dX8_terms_33 rfl ?_
          refine V_ldc (pc := 34) C g1132 dX8_terms_34 ?_
          refine V_callS (pc := 36) C (ct_X8_isIn hT hl h) g1117 g1118 g1119 g64 ⟨by decide, by decide, pl_X8_isIn⟩ ⟨by decide, by decide⟩ (rest := []) rfl (le8 rfl) dX8_terms_36 (fun v22 S21 h => ?_) (fun k9 S9 hk h => VX_out C htab hk (h.2 (by omega)))
          replace h := h.1 rfl
          refine V_st (st' := [Value.int v22]) rfl ?_
          refine V_if_eq (pc := 39) (tgt := 57) C dX8_terms_39 (by decide) h (fun h => ?_) (fun h => ?_)
          · refine V_sub [0, 1, 2, 3, 4, 5, 6] rfl ?_
            exact k_X8_terms_57 hT hl C hr hnm htab  h
          · refine V_iload (pc := 42) C dX8_terms_42 6 rfl ?_
            refine V_iconst (pc := 44) C (v := 0) dX8_terms_44 rfl ?_
            refine V_ldc (pc := 45) C g1132 dX8_terms_45 ?_
            refine V_callS (pc := 47) C (ct_X8_isIn hT hl h) g1117 g1118 g1119 g64 ⟨by decide, by decide, pl_X8_isIn⟩ ⟨by decide, by decide⟩ (rest := []) rfl (le8 rfl) dX8_terms_47 (fun v25 S24 h => ?_) (fun k9 S9 hk h => VX_out C htab hk (h.2 (by omega)))
            replace h := h.1 rfl
            refine V_st (st' := [Value.int v25]) rfl ?_
            refine V_if_eq (pc := 50) (tgt := 57) C dX8_terms_50 (by decide) h (fun h => ?_) (fun h => ?_)
            · refine V_sub [0, 1, 2, 3, 4, 5, 6] rfl ?_
              exact k_X8_terms_57 hT hl C hr hnm htab  h
            · refine V_iconst (pc := 53) C (v := 1) dX8_terms_53 rfl ?_
              refine V_goto (pc := 54) (tgt := 58) C dX8_terms_54 (by decide) ?_
              refine V_sub [0, 1, 2, 3, 4, 5, 6] rfl ?_
              exact k_X8_terms_58 hT hl C hr hnm htab  h
theorem pl_X8_key : (parseMethodDescriptor yX8_key.desc).map (fun d => d.parameters.length) = some 4 := by decide +kernel
def w_X8_key_86  (Q : Nat → Int32 → Sg → Prop) (x1 : Int32) (x2 : Int32) (x3 : Int32) (x4 : Int32) (y0 : Int32) (S : Sg) : Prop := (w_X8_fails y0 S (fun k3 v2 S1 => (k3 = 0 → ((v2 = 0 → (vp_in (S1.1 316 0) 30 ∧ (∀ S4, S4 = su S1 117 (nt (S1.1 316 0)) x1 → (vp_in (S4.1 316 0) 30 ∧ (∀ S5, S5 = su S4 118 (nt (S4.1 316 0)) x2 → (vp_in (S5.1 316 0) 30 ∧ (∀ S6, S6 = su S5 119 (nt (S5.1 316 0)) x3 → (vp_in (S6.1 316 0) 30 ∧ (∀ S7, S7 = su S6 120 (nt (S6.1 316 0)) x4 → (∀ S8, S8 = su S7 316 0 ((S7.1 316 0) + 1) → Q 0 ((S8.1 316 0) - 1) S8)))))))))) ∧ (¬ v2 = 0 → Q 0 0 S1))) ∧ (¬ k3 = 0 → Q k3 0 S1)))
theorem k_X8_key_86 (hT : xT X = tb1) (hl : l.stackTraces = false) (C : Cn X k0 p l R s m meth c cX8_key RX8 7 3 43) (hr : meth.sig.returnType = (some .int)) (hnm : meth.name = yX8_key.name) (htab : ∀ x ∈ c.exceptionTable.toList, False)  {x1 : Int32} {x2 : Int32} {x3 : Int32} {x4 : Int32} {y0 : Int32} {S : Sg} (h : w_X8_key_86  Qa x1 x2 x3 x4 y0 S) : V X p l e R s m args below meth c 7 (QM X below args s S0 ad0 rvI Qa) S0 ad0 S 86 [(0, Value.ref (enc 12 0)), (1, Value.int x1), (2, Value.int x2), (3, Value.int x3), (4, Value.int x4)] [Value.int y0, Value.ref (enc 12 0)] := by
  refine V_callV (pc := 86) C (ct_X8_fails hT hl h) g1120 g1122 g32 g1123 g64 ⟨by decide, by decide, pl_X8_fails⟩ (enc_ne63 (by decide)) (ct_obj hT rfl (by decide)) rfl ⟨by decide, by decide⟩ (rest := []) rfl (le8 rfl) dX8_key_86 (fun v2 S1 h => ?_) (fun k9 S9 hk h => VX_out C htab hk (h.2 (by omega)))
  replace h := h.1 rfl
  refine V_st (st' := [Value.int v2]) rfl ?_
  refine V_if_eq (pc := 89) (tgt := 94) C dX8_key_89 (by decide) h (fun h => ?_) (fun h => ?_)
  · refine V_aload_n (pc := 94) C dX8_key_94 rfl 0 rfl ?_
    refine V_getF (pc := 95) C hT f1_X8_17 g995 dX8_key_95 ?_
    refine V_aload_n (pc := 98) C dX8_key_98 rfl 0 rfl ?_
    refine V_getI (pc := 99) C hT f1_X8_16 g994 dX8_key_99 ?_
    refine V_iload_n (pc := 102) C dX8_key_102 rfl 1 rfl ?_
    refine V_mst (pc := 103) C hT tb1_arr (n := 30) (c9 := 117) (by decide) rfl rfl rfl h dX8_key_103 (fun h => V_nx fun S4 e9 => ?_)
    replace h := h S4 e9; clear e9
    refine V_aload_n (pc := 104) C dX8_key_104 rfl 0 rfl ?_
    refine V_getF (pc := 105) C hT f1_X8_18 g996 dX8_key_105 ?_
    refine V_aload_n (pc := 108) C dX8_key_108 rfl 0 rfl ?_
    refine V_getI (pc := 109) C hT f1_X8_16 g994 dX8_key_109 ?_
    refine V_iload_n (pc := 112) C dX8_key_112 rfl 2 rfl ?_
    refine V_mst (pc := 113) C hT tb1_arr (n := 30) (c9 := 118) (by decide) rfl rfl rfl h dX8_key_113 (fun h => V_nx fun S5 e9 => ?_)
    replace h := h S5 e9; clear e9
    refine V_aload_n (pc := 114) C dX8_key_114 rfl 0 rfl ?_
    refine V_getF (pc := 115) C hT f1_X8_19 g997 dX8_key_115 ?_
    refine V_aload_n (pc := 118) C dX8_key_118 rfl 0 rfl ?_
    refine V_getI (pc := 119) C hT f1_X8_16 g994 dX8_key_119 ?_
    refine V_iload_n (pc := 122) C dX8_key_122 rfl 3 rfl ?_
    refine V_mst (pc := 123) C hT tb1_arr (n := 30) (c9 := 119) (by decide) rfl rfl rfl h dX8_key_123 (fun h => V_nx fun S6 e9 => ?_)
    replace h := h S6 e9; clear e9
    refine V_aload_n (pc := 124) C dX8_key_124 rfl 0 rfl ?_
    refine V_getF (pc := 125) C hT f1_X8_20 g998 dX8_key_125 ?_
    refine V_aload_n (pc := 128) C dX8_key_128 rfl 0 rfl ?_
    refine V_getI (pc := 129) C hT f1_X8_16 g994 dX8_key_129 ?_
    refine V_iload (pc := 132) C dX8_key_132 4 rfl ?_
    refine V_mst (pc := 134) C hT tb1_arr (n := 30) (c9 := 120) (by decide) rfl rfl rfl h dX8_key_134 (fun h => V_nx fun S7 e9 => ?_)
    replace h := h S7 e9; clear e9
    refine V_aload_n (pc := 135) C dX8_key_135 rfl 0 rfl ?_
    refine V_dup (pc := 136) C dX8_key_136 rfl ?_
    refine V_getI (pc := 137) C hT f1_X8_16 g994 dX8_key_137 ?_
    refine V_iconst (pc := 140) C (v := 1) dX8_key_140 rfl ?_
    refine V_iadd (pc := 141) C dX8_key_141 ?_
    refine V_putI (pc := 142) C hT tb1_ok f1_X8_16 (by unfold lc; decide) g994 (Or.inl rfl) (Or.inl rfl) dX8_key_142 (V_nx fun S8 e9 => ?_)
    replace h := h S8 e9; clear e9
    refine V_aload_n (pc := 145) C dX8_key_145 rfl 0 rfl ?_
    refine V_getI (pc := 146) C hT f1_X8_16 g994 dX8_key_146 ?_
    refine V_iconst (pc := 149) C (v := 1) dX8_key_149 rfl ?_
    refine V_isub (pc := 150) C dX8_key_150 ?_
    exact V_iret (pc := 151) C hr rfl h dX8_key_151
  · refine V_iconst (pc := 92) C (v := 0) dX8_key_92 rfl ?_
    exact V_iret (pc := 93) C hr rfl h dX8_key_93
def w_X8_key_51  (Q : Nat → Int32 → Sg → Prop) (x1 : Int32) (x2 : Int32) (x3 : Int32) (x4 : Int32) (x5 : Int32) (y0 : Int32) (S : Sg) : Prop := ((x5 = 0 → w_X8_key_86  Q x1 x2 x3 x4 1 S) ∧ (¬ x5 = 0 → ((y0 = 0 → w_X8_key_86  Q x1 x2 x3 x4 2 S) ∧ (¬ y0 = 0 → (((S.1 316 0) = 30 → w_X8_key_86  Q x1 x2 x3 x4 3 S) ∧ (¬ (S.1 316 0) = 30 → w_X8_key_86  Q x1 x2 x3 x4 0 S))))))
theorem k_X8_key_51 (hT : xT X = tb1) (hl : l.stackTraces = false) (C : Cn X k0 p l R s m meth c cX8_key RX8 7 3 43) (hr : meth.sig.returnType = (some .int)) (hnm : meth.name = yX8_key.name) (htab : ∀ x ∈ c.exceptionTable.toList, False)  {x1 : Int32} {x2 : Int32} {x3 : Int32} {x4 : Int32} {x5 : Int32} {y0 : Int32} {S : Sg} (h : w_X8_key_51  Qa x1 x2 x3 x4 x5 y0 S) : V X p l e R s m args below meth c 7 (QM X below args s S0 ad0 rvI Qa) S0 ad0 S 51 [(0, Value.ref (enc 12 0)), (1, Value.int x1), (2, Value.int x2), (3, Value.int x3), (4, Value.int x4), (5, Value.int x5)] [Value.int y0] := by
  refine V_istore (pc := 51) C dX8_key_51 (by decide) rfl ?_
  refine V_aload_n (pc := 53) C dX8_key_53 rfl 1 rfl ?_
  refine V_iload (pc := 54) C dX8_key_54 6 rfl ?_
  refine V_if_ne (pc := 56) (tgt := 63) C dX8_key_56 (by decide) h (fun h => ?_) (fun h => ?_)
  · refine V_iload (pc := 63) C dX8_key_63 0 rfl ?_
    refine V_if_ne (pc := 65) (tgt := 72) C dX8_key_65 (by decide) h (fun h => ?_) (fun h => ?_)
    · refine V_aload_n (pc := 72) C dX8_key_72 rfl 1 rfl ?_
      refine V_getI (pc := 73) C hT f1_X8_16 g994 dX8_key_73 ?_
      refine V_bipush (pc := 76) C (v := 30) dX8_key_76 rfl ?_
      refine V_icmp_ne (pc := 78) (tgt := 85) C dX8_key_78 (by decide) h (fun h => ?_) (fun h => ?_)
      · refine V_iconst (pc := 85) C (v := 0) dX8_key_85 rfl ?_
        refine V_sub [1, 2, 3, 4, 5] rfl ?_
        exact k_X8_key_86 hT hl C hr hnm htab  h
      · refine V_iconst (pc := 81) C (v := 3) dX8_key_81 rfl ?_
        refine V_goto (pc := 82) (tgt := 86) C dX8_key_82 (by decide) ?_
        refine V_sub [1, 2, 3, 4, 5] rfl ?_
        exact k_X8_key_86 hT hl C hr hnm htab  h
    · refine V_iconst (pc := 68) C (v := 2) dX8_key_68 rfl ?_
      refine V_goto (pc := 69) (tgt := 86) C dX8_key_69 (by decide) ?_
      refine V_sub [1, 2, 3, 4, 5] rfl ?_
      exact k_X8_key_86 hT hl C hr hnm htab  h
  · refine V_iconst (pc := 59) C (v := 1) dX8_key_59 rfl ?_
    refine V_goto (pc := 60) (tgt := 86) C dX8_key_60 (by decide) ?_
    refine V_sub [1, 2, 3, 4, 5] rfl ?_
    exact k_X8_key_86 hT hl C hr hnm htab  h
def w_X8_key_50  (Q : Nat → Int32 → Sg → Prop) (x1 : Int32) (x2 : Int32) (x3 : Int32) (x4 : Int32) (x5 : Int32) (S : Sg) : Prop := w_X8_key_51  Q x1 x2 x3 x4 x5 0 S
theorem k_X8_key_50 (hT : xT X = tb1) (hl : l.stackTraces = false) (C : Cn X k0 p l R s m meth c cX8_key RX8 7 3 43) (hr : meth.sig.returnType = (some .int)) (hnm : meth.name = yX8_key.name) (htab : ∀ x ∈ c.exceptionTable.toList, False)  {x1 : Int32} {x2 : Int32} {x3 : Int32} {x4 : Int32} {x5 : Int32} {S : Sg} (h : w_X8_key_50  Qa x1 x2 x3 x4 x5 S) : V X p l e R s m args below meth c 7 (QM X below args s S0 ad0 rvI Qa) S0 ad0 S 50 [(0, Value.ref (enc 12 0)), (1, Value.int x1), (2, Value.int x2), (3, Value.int x3), (4, Value.int x4), (5, Value.int x5)] [] := by
  refine V_iconst (pc := 50) C (v := 0) dX8_key_50 rfl ?_
  refine V_sub [0, 1, 2, 3, 4, 5] rfl ?_
  exact k_X8_key_51 hT hl C hr hnm htab  h
def w_X8_key_21  (Q : Nat → Int32 → Sg → Prop) (x1 : Int32) (x2 : Int32) (x3 : Int32) (x4 : Int32) (y0 : Int32) (S : Sg) : Prop := (w_X8_isIn x3 0 100000 S (fun k11 v10 S9 => (k11 = 0 → ((v10 = 0 → w_X8_key_50  Q x1 x2 x3 x4 y0 S9) ∧ (¬ v10 = 0 → (w_X8_isIn x4 (x3 + 1) 110000 S9 (fun k14 v13 S12 => (k14 = 0 → ((v13 = 0 → w_X8_key_50  Q x1 x2 x3 x4 y0 S12) ∧ (¬ v13 = 0 → w_X8_key_51  Q x1 x2 x3 x4 y0 1 S12))) ∧ (¬ k14 = 0 → Q k14 0 S12)))))) ∧ (¬ k11 = 0 → Q k11 0 S9)))
theorem k_X8_key_21 (hT : xT X = tb1) (hl : l.stackTraces = false) (C : Cn X k0 p l R s m meth c cX8_key RX8 7 3 43) (hr : meth.sig.returnType = (some .int)) (hnm : meth.name = yX8_key.name) (htab : ∀ x ∈ c.exceptionTable.toList, False)  {x1 : Int32} {x2 : Int32} {x3 : Int32} {x4 : Int32} {y0 : Int32} {S : Sg} (h : w_X8_key_21  Qa x1 x2 x3 x4 y0 S) : V X p l e R s m args below meth c 7 (QM X below args s S0 ad0 rvI Qa) S0 ad0 S 21 [(0, Value.ref (enc 12 0)), (1, Value.int x1), (2, Value.int x2), (3, Value.int x3), (4, Value.int x4)] [Value.int y0] := by
  refine V_istore (pc := 21) C dX8_key_21 (by decide) rfl ?_
  refine V_iload_n (pc := 23) C dX8_key_23 rfl 4 rfl ?_
  refine V_iconst (pc := 24) C (v := 0) dX8_key_24 rfl ?_
  refine V_ldc (pc := 25) C g1132 dX8_key_25 ?_
  refine V_callS (pc := 27) C (ct_X8_isIn hT hl h) g1117 g1118 g1119 g64 ⟨by decide, by decide, pl_X8_isIn⟩ ⟨by decide, by decide⟩ (rest := []) rfl (le8 rfl) dX8_key_27 (fun v10 S9 h => ?_) (fun k9 S9 hk h => VX_out C htab hk (h.2 (by omega)))
  replace h := h.1 rfl
  refine V_st (st' := [Value.int v10]) rfl ?_
  refine V_if_eq (pc := 30) (tgt := 50) C dX8_key_30 (by decide) h (fun h => ?_) (fun h => ?_)
  · refine V_sub [1, 2, 3, 4, 5, 0] rfl ?_
    exact k_X8_key_50 hT hl C hr hnm htab  h
  · refine V_iload (pc := 33) C dX8_key_33 5 rfl ?_
    refine V_iload_n (pc := 35) C dX8_key_35 rfl 4 rfl ?_
    refine V_iconst (pc := 36) C (v := 1) dX8_key_36 rfl ?_
    refine V_iadd (pc := 37) C dX8_key_37 ?_
    refine V_ldc (pc := 38) C g1149 dX8_key_38 ?_
    refine V_callS (pc := 40) C (ct_X8_isIn hT hl h) g1117 g1118 g1119 g64 ⟨by decide, by decide, pl_X8_isIn⟩ ⟨by decide, by decide⟩ (rest := []) rfl (le8 rfl) dX8_key_40 (fun v13 S12 h => ?_) (fun k9 S9 hk h => VX_out C htab hk (h.2 (by omega)))
    replace h := h.1 rfl
    refine V_st (st' := [Value.int v13]) rfl ?_
    refine V_if_eq (pc := 43) (tgt := 50) C dX8_key_43 (by decide) h (fun h => ?_) (fun h => ?_)
    · refine V_sub [1, 2, 3, 4, 5, 0] rfl ?_
      exact k_X8_key_50 hT hl C hr hnm htab  h
    · refine V_iconst (pc := 46) C (v := 1) dX8_key_46 rfl ?_
      refine V_goto (pc := 47) (tgt := 51) C dX8_key_47 (by decide) ?_
      refine V_sub [1, 2, 3, 4, 5, 0] rfl ?_
      exact k_X8_key_51 hT hl C hr hnm htab  h
def w_X8_key_20  (Q : Nat → Int32 → Sg → Prop) (x1 : Int32) (x2 : Int32) (x3 : Int32) (x4 : Int32) (S : Sg) : Prop := w_X8_key_21  Q x1 x2 x3 x4 0 S
theorem k_X8_key_20 (hT : xT X = tb1) (hl : l.stackTraces = false) (C : Cn X k0 p l R s m meth c cX8_key RX8 7 3 43) (hr : meth.sig.returnType = (some .int)) (hnm : meth.name = yX8_key.name) (htab : ∀ x ∈ c.exceptionTable.toList, False)  {x1 : Int32} {x2 : Int32} {x3 : Int32} {x4 : Int32} {S : Sg} (h : w_X8_key_20  Qa x1 x2 x3 x4 S) : V X p l e R s m args below meth c 7 (QM X below args s S0 ad0 rvI Qa) S0 ad0 S 20 [(0, Value.ref (enc 12 0)), (1, Value.int x1), (2, Value.int x2), (3, Value.int x3), (4, Value.int x4)] [] := by
  refine V_iconst (pc := 20) C (v := 0) dX8_key_20 rfl ?_
  refine V_sub [0, 1, 2, 3, 4] rfl ?_
  exact k_X8_key_21 hT hl C hr hnm htab  h
def w_X8_key (a1 : Int32) (a2 : Int32) (a3 : Int32) (a4 : Int32) (S : Sg) (Q : Nat → Int32 → Sg → Prop) : Prop := (w_X8_isFilm a1 S (fun k17 v16 S15 => (k17 = 0 → ((v16 = 0 → w_X8_key_20  Q a1 a2 a3 a4 S15) ∧ (¬ v16 = 0 → (w_X8_isHall a2 S15 (fun k20 v19 S18 => (k20 = 0 → ((v19 = 0 → w_X8_key_20  Q a1 a2 a3 a4 S18) ∧ (¬ v19 = 0 → w_X8_key_21  Q a1 a2 a3 a4 1 S18))) ∧ (¬ k20 = 0 → Q k20 0 S18)))))) ∧ (¬ k17 = 0 → Q k17 0 S15)))
theorem ct_X8_key (hT : xT X = tb1) (hl : l.stackTraces = false) {a1 : Int32} {a2 : Int32} {a3 : Int32} {a4 : Int32} {S : Sg} (h : w_X8_key a1 a2 a3 a4 S Qa) : CT X k0 l yX8_key cX8_key 7 (some .int) 3 43 [Value.ref (enc 12 0), Value.int a1, Value.int a2, Value.int a3, Value.int a4] rvI S Qa :=
  CT_ofV (own := RX8) (by decide +kernel) (le8 rfl) rfl hl fun p e R s m args below meth c ad0 C hr hnm htab => by
    refine V_aload_n (pc := 0) C dX8_key_0 rfl 0 rfl ?_
    refine V_iload_n (pc := 1) C dX8_key_1 rfl 1 rfl ?_
    refine V_callV (pc := 2) C (ct_X8_isFilm hT hl h) g1141 g1143 g34 g1144 g64 ⟨by decide, by decide, pl_X8_isFilm⟩ (enc_ne63 (by decide)) (ct_obj hT rfl (by decide)) rfl ⟨by decide, by decide⟩ (rest := []) rfl (le8 rfl) dX8_key_2 (fun v16 S15 h => ?_) (fun k9 S9 hk h => VX_out C htab hk (h.2 (by omega)))
    replace h := h.1 rfl
    refine V_st (st' := [Value.int v16]) rfl ?_
    refine V_if_eq (pc := 5) (tgt := 20) C dX8_key_5 (by decide) h (fun h => ?_) (fun h => ?_)
    · refine V_sub [0, 1, 2, 3, 4] rfl ?_
      exact k_X8_key_20 hT hl C hr hnm htab  h
    · refine V_aload_n (pc := 8) C dX8_key_8 rfl 0 rfl ?_
      refine V_iload_n (pc := 9) C dX8_key_9 rfl 2 rfl ?_
      refine V_callV (pc := 10) C (ct_X8_isHall hT hl h) g1128 g1130 g33 g1131 g64 ⟨by decide, by decide, pl_X8_isHall⟩ (enc_ne63 (by decide)) (ct_obj hT rfl (by decide)) rfl ⟨by decide, by decide⟩ (rest := []) rfl (le8 rfl) dX8_key_10 (fun v19 S18 h => ?_) (fun k9 S9 hk h => VX_out C htab hk (h.2 (by omega)))
      replace h := h.1 rfl
      refine V_st (st' := [Value.int v19]) rfl ?_
      refine V_if_eq (pc := 13) (tgt := 20) C dX8_key_13 (by decide) h (fun h => ?_) (fun h => ?_)
      · refine V_sub [0, 1, 2, 3, 4] rfl ?_
        exact k_X8_key_20 hT hl C hr hnm htab  h
      · refine V_iconst (pc := 16) C (v := 1) dX8_key_16 rfl ?_
        refine V_goto (pc := 17) (tgt := 21) C dX8_key_17 (by decide) ?_
        refine V_sub [0, 1, 2, 3, 4] rfl ?_
        exact k_X8_key_21 hT hl C hr hnm htab  h
theorem pl_X8_spread : (parseMethodDescriptor yX8_spread.desc).map (fun d => d.parameters.length) = some 1 := by decide +kernel
def w_X8_spread_16  (Q : Nat → Int32 → Sg → Prop) (x1 : Int32) (y0 : Int32) (S : Sg) : Prop := (w_X8_fails y0 S (fun k3 v2 S1 => (k3 = 0 → ((v2 = 0 → (∀ v4, v4 = S1.1 301 0 → (∀ S5, S5 = su S1 301 0 x1 → Q 0 v4 S5))) ∧ (¬ v2 = 0 → Q 0 0 S1))) ∧ (¬ k3 = 0 → Q k3 0 S1)))
theorem k_X8_spread_16 (hT : xT X = tb1) (hl : l.stackTraces = false) (C : Cn X k0 p l R s m meth c cX8_spread RX8 3 2 22) (hr : meth.sig.returnType = (some .int)) (hnm : meth.name = yX8_spread.name) (htab : ∀ x ∈ c.exceptionTable.toList, False)  {x1 : Int32} {y0 : Int32} {S : Sg} (h : w_X8_spread_16  Qa x1 y0 S) : V X p l e R s m args below meth c 3 (QM X below args s S0 ad0 rvI Qa) S0 ad0 S 16 [(0, Value.ref (enc 12 0)), (1, Value.int x1)] [Value.int y0, Value.ref (enc 12 0)] := by
  refine V_callV (pc := 16) C (ct_X8_fails hT hl h) g1120 g1122 g32 g1123 g64 ⟨by decide, by decide, pl_X8_fails⟩ (enc_ne63 (by decide)) (ct_obj hT rfl (by decide)) rfl ⟨by decide, by decide⟩ (rest := []) rfl (le8 rfl) dX8_spread_16 (fun v2 S1 h => ?_) (fun k9 S9 hk h => VX_out C htab hk (h.2 (by omega)))
  replace h := h.1 rfl
  refine V_st (st' := [Value.int v2]) rfl ?_
  refine V_if_eq (pc := 19) (tgt := 24) C dX8_spread_19 (by decide) h (fun h => ?_) (fun h => ?_)
  · refine V_aload_n (pc := 24) C dX8_spread_24 rfl 0 rfl ?_
    refine V_getI (pc := 25) C hT f1_X8_1 g979 dX8_spread_25 ?_
    refine V_nI fun v4 e9 => ?_
    replace h := h v4 e9; clear e9
    refine V_istore_n (pc := 28) C dX8_spread_28 rfl (by decide) rfl ?_
    refine V_aload_n (pc := 29) C dX8_spread_29 rfl 1 rfl ?_
    refine V_iload_n (pc := 30) C dX8_spread_30 rfl 2 rfl ?_
    refine V_putI (pc := 31) C hT tb1_ok f1_X8_1 (by unfold lc; decide) g979 (Or.inl rfl) (Or.inl rfl) dX8_spread_31 (V_nx fun S5 e9 => ?_)
    replace h := h S5 e9; clear e9
    refine V_iload_n (pc := 34) C dX8_spread_34 rfl 0 rfl ?_
    exact V_iret (pc := 35) C hr rfl h dX8_spread_35
  · refine V_iconst (pc := 22) C (v := 0) dX8_spread_22 rfl ?_
    exact V_iret (pc := 23) C hr rfl h dX8_spread_23
def w_X8_spread (a1 : Int32) (S : Sg) (Q : Nat → Int32 → Sg → Prop) : Prop := (w_X8_isIn a1 0 60 S (fun k8 v7 S6 => (k8 = 0 → ((v7 = 0 → w_X8_spread_16  Q a1 1 S6) ∧ (¬ v7 = 0 → w_X8_spread_16  Q a1 0 S6))) ∧ (¬ k8 = 0 → Q k8 0 S6)))
theorem ct_X8_spread (hT : xT X = tb1) (hl : l.stackTraces = false) {a1 : Int32} {S : Sg} (h : w_X8_spread a1 S Qa) : CT X k0 l yX8_spread cX8_spread 3 (some .int) 2 22 [Value.ref (enc 12 0), Value.int a1] rvI S Qa :=
  CT_ofV (own := RX8) (by decide +kernel) (le8 rfl) rfl hl fun p e R s m args below meth c ad0 C hr hnm htab => by
    refine V_aload_n (pc := 0) C dX8_spread_0 rfl 0 rfl ?_
    refine V_iload_n (pc := 1) C dX8_spread_1 rfl 1 rfl ?_
    refine V_iconst (pc := 2) C (v := 0) dX8_spread_2 rfl ?_
    refine V_bipush (pc := 3) C (v := 60) dX8_spread_3 rfl ?_
    refine V_callS (pc := 5) C (ct_X8_isIn hT hl h) g1117 g1118 g1119 g64 ⟨by decide, by decide, pl_X8_isIn⟩ ⟨by decide, by decide⟩ (rest := [Value.ref (enc 12 0)]) rfl (le8 rfl) dX8_spread_5 (fun v7 S6 h => ?_) (fun k9 S9 hk h => VX_out C htab hk (h.2 (by omega)))
    replace h := h.1 rfl
    refine V_st (st' := [Value.int v7, Value.ref (enc 12 0)]) rfl ?_
    refine V_if_eq (pc := 8) (tgt := 15) C dX8_spread_8 (by decide) h (fun h => ?_) (fun h => ?_)
    · refine V_iconst (pc := 15) C (v := 1) dX8_spread_15 rfl ?_
      refine V_sub [0, 1] rfl ?_
      exact k_X8_spread_16 hT hl C hr hnm htab  h
    · refine V_iconst (pc := 11) C (v := 0) dX8_spread_11 rfl ?_
      refine V_goto (pc := 12) (tgt := 16) C dX8_spread_12 (by decide) ?_
      refine V_sub [0, 1] rfl ?_
      exact k_X8_spread_16 hT hl C hr hnm htab  h
theorem pl_X8_end : (parseMethodDescriptor yX8_end.desc).map (fun d => d.parameters.length) = some 1 := by decide +kernel
def w_X8_end (a1 : Int32) (S : Sg) (Q : Nat → Int32 → Sg → Prop) : Prop := (vp_in a1 30 ∧ (vp_in a1 30 ∧ (vp_in (S.1 122 (nt a1)) 8 ∧ Q 0 ((S.1 124 (nt a1)) + (S.1 108 (nt (S.1 122 (nt a1))))) S)))
theorem ct_X8_end (hT : xT X = tb1) (hl : l.stackTraces = false) {a1 : Int32} {S : Sg} (h : w_X8_end a1 S Qa) : CT X k0 l yX8_end cX8_end 2 (some .int) 1 0 [Value.ref (enc 12 0), Value.int a1] rvI S Qa :=
  CT_ofV (own := RX8) (by decide +kernel) (le8 rfl) rfl hl fun p e R s m args below meth c ad0 C hr hnm htab => by
    refine V_aload_n (pc := 0) C dX8_end_0 rfl 0 rfl ?_
    refine V_getF (pc := 1) C hT f1_X8_24 g1002 dX8_end_1 ?_
    refine V_iload_n (pc := 4) C dX8_end_4 rfl 1 rfl ?_
    refine V_mld (pc := 5) C hT tb1_arr (n := 30) (c9 := 124) rfl rfl rfl h dX8_end_5 (fun h => ?_)
    refine V_aload_n (pc := 6) C dX8_end_6 rfl 0 rfl ?_
    refine V_getF (pc := 7) C hT f1_X8_8 g986 dX8_end_7 ?_
    refine V_aload_n (pc := 10) C dX8_end_10 rfl 0 rfl ?_
    refine V_getF (pc := 11) C hT f1_X8_22 g1000 dX8_end_11 ?_
    refine V_iload_n (pc := 14) C dX8_end_14 rfl 1 rfl ?_
    refine V_mld (pc := 15) C hT tb1_arr (n := 30) (c9 := 122) rfl rfl rfl h dX8_end_15 (fun h => ?_)
    refine V_mld (pc := 16) C hT tb1_arr (n := 8) (c9 := 108) rfl rfl rfl h dX8_end_16 (fun h => ?_)
    refine V_iadd (pc := 17) C dX8_end_17 ?_
    exact V_iret (pc := 18) C hr rfl h dX8_end_18
theorem pl_X8_isOn : (parseMethodDescriptor yX8_isOn.desc).map (fun d => d.parameters.length) = some 1 := by decide +kernel
def w_X8_isOn (a1 : Int32) (S : Sg) (Q : Nat → Int32 → Sg → Prop) : Prop := (vp_in a1 30 ∧ (((S.1 125 (nt a1)) = 0 → Q 0 1 S) ∧ (¬ (S.1 125 (nt a1)) = 0 → (vp_in a1 30 ∧ (((S.1 125 (nt a1)) = 1 → Q 0 1 S) ∧ (¬ (S.1 125 (nt a1)) = 1 → Q 0 0 S))))))
theorem ct_X8_isOn (hT : xT X = tb1) (hl : l.stackTraces = false) {a1 : Int32} {S : Sg} (h : w_X8_isOn a1 S Qa) : CT X k0 l yX8_isOn cX8_isOn 2 (some .boolean) 1 0 [Value.ref (enc 12 0), Value.int a1] rvI S Qa :=
  CT_ofV (own := RX8) (by decide +kernel) (le8 rfl) rfl hl fun p e R s m args below meth c ad0 C hr hnm htab => by
    refine V_aload_n (pc := 0) C dX8_isOn_0 rfl 0 rfl ?_
    refine V_getF (pc := 1) C hT f1_X8_25 g1003 dX8_isOn_1 ?_
    refine V_iload_n (pc := 4) C dX8_isOn_4 rfl 1 rfl ?_
    refine V_mld (pc := 5) C hT tb1_arr (n := 30) (c9 := 125) rfl rfl rfl h dX8_isOn_5 (fun h => ?_)
    refine V_if_eq (pc := 6) (tgt := 19) C dX8_isOn_6 (by decide) h (fun h => ?_) (fun h => ?_)
    · refine V_iconst (pc := 19) C (v := 1) dX8_isOn_19 rfl ?_
      refine V_goto (pc := 20) (tgt := 24) C dX8_isOn_20 (by decide) ?_
      exact V_zret (pc := 24) C hr (by decide) rfl h dX8_isOn_24
    · refine V_aload_n (pc := 9) C dX8_isOn_9 rfl 0 rfl ?_
      refine V_getF (pc := 10) C hT f1_X8_25 g1003 dX8_isOn_10 ?_
      refine V_iload_n (pc := 13) C dX8_isOn_13 rfl 1 rfl ?_
      refine V_mld (pc := 14) C hT tb1_arr (n := 30) (c9 := 125) rfl rfl rfl h dX8_isOn_14 (fun h => ?_)
      refine V_iconst (pc := 15) C (v := 1) dX8_isOn_15 rfl ?_
      refine V_icmp_ne (pc := 16) (tgt := 23) C dX8_isOn_16 (by decide) h (fun h => ?_) (fun h => ?_)
      · refine V_iconst (pc := 23) C (v := 0) dX8_isOn_23 rfl ?_
        exact V_zret (pc := 24) C hr (by decide) rfl h dX8_isOn_24
      · refine V_iconst (pc := 19) C (v := 1) dX8_isOn_19 rfl ?_
        refine V_goto (pc := 20) (tgt := 24) C dX8_isOn_20 (by decide) ?_
        exact V_zret (pc := 24) C hr (by decide) rfl h dX8_isOn_24
theorem pl_X8_reason : (parseMethodDescriptor yX8_reason.desc).map (fun d => d.parameters.length) = some 3 := by decide +kernel
def w_X8_reason_291 (k112 : Int32 → Int32 → Int32 → Int32 → Int32 → Int32 → Int32 → Int32 → Sg → Prop) (Q : Nat → Int32 → Sg → Prop) (x2 : Int32) (x3 : Int32) (x4 : Int32) (x5 : Int32) (x6 : Int32) (x7 : Int32) (x9 : Int32) (y0 : Int32) (y1 : Int32) (S : Sg) : Prop := (∀ v1, v1 = y1 + y0 → k112 x2 x3 x4 x5 x6 x7 v1 (x9 + 1) S)
theorem k_X8_reason_291 (hT : xT X = tb1) (hl : l.stackTraces = false) (C : Cn X k0 p l R s m meth c cX8_reason RX8 12 2 21) (hr : meth.sig.returnType = (some .int)) (hnm : meth.name = yX8_reason.name) (htab : ∀ x ∈ c.exceptionTable.toList, False) {k112 : Int32 → Int32 → Int32 → Int32 → Int32 → Int32 → Int32 → Int32 → Sg → Prop} (hk112 : ∀ {x2 : Int32} {x3 : Int32} {x4 : Int32} {x5 : Int32} {x6 : Int32} {x7 : Int32} {x8 : Int32} {x9 : Int32} {S : Sg}, k112 x2 x3 x4 x5 x6 x7 x8 x9 S → V X p l e R s m args below meth c 12 (QM X below args s S0 ad0 rvI Qa) S0 ad0 S 112 [(0, Value.ref (enc 12 0)), (2, Value.int x2), (3, Value.int x3), (4, Value.int x4), (5, Value.int x5), (6, Value.int x6), (7, Value.int x7), (8, Value.int x8), (9, Value.int x9)] []) {x2 : Int32} {x3 : Int32} {x4 : Int32} {x5 : Int32} {x6 : Int32} {x7 : Int32} {x9 : Int32} {y0 : Int32} {y1 : Int32} {S : Sg} (h : w_X8_reason_291 k112 Qa x2 x3 x4 x5 x6 x7 x9 y0 y1 S) : V X p l e R s m args below meth c 12 (QM X below args s S0 ad0 rvI Qa) S0 ad0 S 291 [(0, Value.ref (enc 12 0)), (2, Value.int x2), (3, Value.int x3), (4, Value.int x4), (5, Value.int x5), (6, Value.int x6), (7, Value.int x7), (9, Value.int x9)] [Value.int y0, Value.int y1] := by
  refine V_iadd (pc := 291) C dX8_reason_291 ?_
  refine V_nI fun v1 e9 => ?_
  replace h := h v1 e9; clear e9
  refine V_istore (pc := 292) C dX8_reason_292 (by decide) rfl ?_
  refine V_iinc (pc := 294) C (a := 8) (v := x9 + 1) dX8_reason_294 rfl rfl (by decide) rfl ?_
  refine V_goto (pc := 297) (tgt := 112) C dX8_reason_297 (by decide) ?_
  refine V_sub [2, 3, 4, 5, 6, 7, 8, 1, 0] rfl ?_
  exact hk112 h
def w_X8_reason_266 (k112 : Int32 → Int32 → Int32 → Int32 → Int32 → Int32 → Int32 → Int32 → Sg → Prop) (Q : Nat → Int32 → Sg → Prop) (x2 : Int32) (x3 : Int32) (x4 : Int32) (x5 : Int32) (x6 : Int32) (x8 : Int32) (x9 : Int32) (x10 : Int32) (y0 : Int32) (S : Sg) : Prop := ((x10 = 0 → w_X8_reason_291 k112 Q x2 x3 x4 x5 x6 y0 x9 0 x8 S) ∧ (¬ x10 = 0 → (vp_in x9 30 ∧ (vp_in (S.1 122 (nt x9)) 8 ∧ w_X8_reason_291 k112 Q x2 x3 x4 x5 x6 y0 x9 (S.1 108 (nt (S.1 122 (nt x9)))) x8 S))))
theorem k_X8_reason_266 (hT : xT X = tb1) (hl : l.stackTraces = false) (C : Cn X k0 p l R s m meth c cX8_reason RX8 12 2 21) (hr : meth.sig.returnType = (some .int)) (hnm : meth.name = yX8_reason.name) (htab : ∀ x ∈ c.exceptionTable.toList, False) {k112 : Int32 → Int32 → Int32 → Int32 → Int32 → Int32 → Int32 → Int32 → Sg → Prop} (hk112 : ∀ {x2 : Int32} {x3 : Int32} {x4 : Int32} {x5 : Int32} {x6 : Int32} {x7 : Int32} {x8 : Int32} {x9 : Int32} {S : Sg}, k112 x2 x3 x4 x5 x6 x7 x8 x9 S → V X p l e R s m args below meth c 12 (QM X below args s S0 ad0 rvI Qa) S0 ad0 S 112 [(0, Value.ref (enc 12 0)), (2, Value.int x2), (3, Value.int x3), (4, Value.int x4), (5, Value.int x5), (6, Value.int x6), (7, Value.int x7), (8, Value.int x8), (9, Value.int x9)] []) {x2 : Int32} {x3 : Int32} {x4 : Int32} {x5 : Int32} {x6 : Int32} {x8 : Int32} {x9 : Int32} {x10 : Int32} {y0 : Int32} {S : Sg} (h : w_X8_reason_266 k112 Qa x2 x3 x4 x5 x6 x8 x9 x10 y0 S) : V X p l e R s m args below meth c 12 (QM X below args s S0 ad0 rvI Qa) S0 ad0 S 266 [(0, Value.ref (enc 12 0)), (2, Value.int x2), (3, Value.int x3), (4, Value.int x4), (5, Value.int x5), (6, Value.int x6), (8, Value.int x8), (9, Value.int x9), (10, Value.int x10)] [Value.int y0] := by
  refine V_istore (pc := 266) C dX8_reason_266 (by decide) rfl ?_
  refine V_iload (pc := 268) C dX8_reason_268 7 rfl ?_
  refine V_iload (pc := 270) C dX8_reason_270 9 rfl ?_
  refine V_if_eq (pc := 272) (tgt := 290) C dX8_reason_272 (by decide) h (fun h => ?_) (fun h => ?_)
  · refine V_iconst (pc := 290) C (v := 0) dX8_reason_290 rfl ?_
    refine V_sub [1, 2, 3, 4, 5, 6, 0, 8] rfl ?_
    exact k_X8_reason_291 hT hl C hr hnm htab (fun h => hk112 h) h
  · refine V_aload_n (pc := 275) C dX8_reason_275 rfl 1 rfl ?_
    refine V_getF (pc := 276) C hT f1_X8_8 g986 dX8_reason_276 ?_
    refine V_aload_n (pc := 279) C dX8_reason_279 rfl 1 rfl ?_
    refine V_getF (pc := 280) C hT f1_X8_22 g1000 dX8_reason_280 ?_
    refine V_iload (pc := 283) C dX8_reason_283 8 rfl ?_
    refine V_mld (pc := 285) C hT tb1_arr (n := 30) (c9 := 122) rfl rfl rfl h dX8_reason_285 (fun h => ?_)
    refine V_mld (pc := 286) C hT tb1_arr (n := 8) (c9 := 108) rfl rfl rfl h dX8_reason_286 (fun h => ?_)
    refine V_goto (pc := 287) (tgt := 291) C dX8_reason_287 (by decide) ?_
    refine V_sub [1, 2, 3, 4, 5, 6, 0, 8] rfl ?_
    exact k_X8_reason_291 hT hl C hr hnm htab (fun h => hk112 h) h
def w_X8_reason_265 (k112 : Int32 → Int32 → Int32 → Int32 → Int32 → Int32 → Int32 → Int32 → Sg → Prop) (Q : Nat → Int32 → Sg → Prop) (x2 : Int32) (x3 : Int32) (x4 : Int32) (x5 : Int32) (x6 : Int32) (x8 : Int32) (x9 : Int32) (x10 : Int32) (S : Sg) : Prop := w_X8_reason_266 k112 Q x2 x3 x4 x5 x6 x8 x9 x10 0 S
theorem k_X8_reason_265 (hT : xT X = tb1) (hl : l.stackTraces = false) (C : Cn X k0 p l R s m meth c cX8_reason RX8 12 2 21) (hr : meth.sig.returnType = (some .int)) (hnm : meth.name = yX8_reason.name) (htab : ∀ x ∈ c.exceptionTable.toList, False) {k112 : Int32 → Int32 → Int32 → Int32 → Int32 → Int32 → Int32 → Int32 → Sg → Prop} (hk112 : ∀ {x2 : Int32} {x3 : Int32} {x4 : Int32} {x5 : Int32} {x6 : Int32} {x7 : Int32} {x8 : Int32} {x9 : Int32} {S : Sg}, k112 x2 x3 x4 x5 x6 x7 x8 x9 S → V X p l e R s m args below meth c 12 (QM X below args s S0 ad0 rvI Qa) S0 ad0 S 112 [(0, Value.ref (enc 12 0)), (2, Value.int x2), (3, Value.int x3), (4, Value.int x4), (5, Value.int x5), (6, Value.int x6), (7, Value.int x7), (8, Value.int x8), (9, Value.int x9)] []) {x2 : Int32} {x3 : Int32} {x4 : Int32} {x5 : Int32} {x6 : Int32} {x8 : Int32} {x9 : Int32} {x10 : Int32} {S : Sg} (h : w_X8_reason_265 k112 Qa x2 x3 x4 x5 x6 x8 x9 x10 S) : V X p l e R s m args below meth c 12 (QM X below args s S0 ad0 rvI Qa) S0 ad0 S 265 [(0, Value.ref (enc 12 0)), (2, Value.int x2), (3, Value.int x3), (4, Value.int x4), (5, Value.int x5), (6, Value.int x6), (8, Value.int x8), (9, Value.int x9), (10, Value.int x10)] [] := by
  refine V_iconst (pc := 265) C (v := 0) dX8_reason_265 rfl ?_
  refine V_sub [0, 1, 2, 3, 4, 5, 6, 7, 8] rfl ?_
  exact k_X8_reason_266 hT hl C hr hnm htab (fun h => hk112 h) h
def w_X8_reason_261 (k112 : Int32 → Int32 → Int32 → Int32 → Int32 → Int32 → Int32 → Int32 → Sg → Prop) (Q : Nat → Int32 → Sg → Prop) (x2 : Int32) (x3 : Int32) (x4 : Int32) (x5 : Int32) (x6 : Int32) (x8 : Int32) (x9 : Int32) (x10 : Int32) (S : Sg) : Prop := w_X8_reason_266 k112 Q x2 x3 x4 x5 x6 x8 x9 x10 1 S
theorem k_X8_reason_261 (hT : xT X = tb1) (hl : l.stackTraces = false) (C : Cn X k0 p l R s m meth c cX8_reason RX8 12 2 21) (hr : meth.sig.returnType = (some .int)) (hnm : meth.name = yX8_reason.name) (htab : ∀ x ∈ c.exceptionTable.toList, False) {k112 : Int32 → Int32 → Int32 → Int32 → Int32 → Int32 → Int32 → Int32 → Sg → Prop} (hk112 : ∀ {x2 : Int32} {x3 : Int32} {x4 : Int32} {x5 : Int32} {x6 : Int32} {x7 : Int32} {x8 : Int32} {x9 : Int32} {S : Sg}, k112 x2 x3 x4 x5 x6 x7 x8 x9 S → V X p l e R s m args below meth c 12 (QM X below args s S0 ad0 rvI Qa) S0 ad0 S 112 [(0, Value.ref (enc 12 0)), (2, Value.int x2), (3, Value.int x3), (4, Value.int x4), (5, Value.int x5), (6, Value.int x6), (7, Value.int x7), (8, Value.int x8), (9, Value.int x9)] []) {x2 : Int32} {x3 : Int32} {x4 : Int32} {x5 : Int32} {x6 : Int32} {x8 : Int32} {x9 : Int32} {x10 : Int32} {S : Sg} (h : w_X8_reason_261 k112 Qa x2 x3 x4 x5 x6 x8 x9 x10 S) : V X p l e R s m args below meth c 12 (QM X below args s S0 ad0 rvI Qa) S0 ad0 S 261 [(0, Value.ref (enc 12 0)), (2, Value.int x2), (3, Value.int x3), (4, Value.int x4), (5, Value.int x5), (6, Value.int x6), (8, Value.int x8), (9, Value.int x9), (10, Value.int x10)] [] := by
  refine V_iconst (pc := 261) C (v := 1) dX8_reason_261 rfl ?_
  refine V_goto (pc := 262) (tgt := 266) C dX8_reason_262 (by decide) ?_
  refine V_sub [0, 1, 2, 3, 4, 5, 6, 7, 8] rfl ?_
  exact k_X8_reason_266 hT hl C hr hnm htab (fun h => hk112 h) h
def w_X8_reason_225 (k112 : Int32 → Int32 → Int32 → Int32 → Int32 → Int32 → Int32 → Int32 → Sg → Prop) (Q : Nat → Int32 → Sg → Prop) (x2 : Int32) (x3 : Int32) (x4 : Int32) (x5 : Int32) (x7 : Int32) (x8 : Int32) (x9 : Int32) (x10 : Int32) (x11 : Int32) (y0 : Int32) (S : Sg) : Prop := ((x7 = 0 → (w_X8_isOn x9 S (fun k4 v3 S2 => (k4 = 0 → ((v3 = 0 → w_X8_reason_265 k112 Q x2 x3 x4 x5 y0 x8 x9 x10 S2) ∧ (¬ v3 = 0 → (vp_in x9 30 ∧ (((S2.1 123 (nt x9)) = x2 → w_X8_reason_265 k112 Q x2 x3 x4 x5 y0 x8 x9 x10 S2) ∧ (¬ (S2.1 123 (nt x9)) = x2 → (((S2.1 301 0) ≤ x11 → w_X8_reason_265 k112 Q x2 x3 x4 x5 y0 x8 x9 x10 S2) ∧ (¬ (S2.1 301 0) ≤ x11 → w_X8_reason_261 k112 Q x2 x3 x4 x5 y0 x8 x9 x10 S2)))))))) ∧ (¬ k4 = 0 → Q k4 0 S2)))) ∧ (¬ x7 = 0 → w_X8_reason_261 k112 Q x2 x3 x4 x5 y0 x8 x9 x10 S))
theorem k_X8_reason_225 (hT : xT X = tb1) (hl : l.stackTraces = false) (C : Cn X k0 p l R s m meth c cX8_reason RX8 12 2 21) (hr : meth.sig.returnType = (some .int)) (hnm : meth.name = yX8_reason.name) (htab : ∀ x ∈ c.exceptionTable.toList, False) {k112 : Int32 → Int32 → Int32 → Int32 → Int32 → Int32 → Int32 → Int32 → Sg → Prop} (hk112 : ∀ {x2 : Int32} {x3 : Int32} {x4 : Int32} {x5 : Int32} {x6 : Int32} {x7 : Int32} {x8 : Int32} {x9 : Int32} {S : Sg}, k112 x2 x3 x4 x5 x6 x7 x8 x9 S → V X p l e R s m args below meth c 12 (QM X below args s S0 ad0 rvI Qa) S0 ad0 S 112 [(0, Value.ref (enc 12 0)), (2, Value.int x2), (3, Value.int x3), (4, Value.int x4), (5, Value.int x5), (6, Value.int x6), (7, Value.int x7), (8, Value.int x8), (9, Value.int x9)] []) {x2 : Int32} {x3 : Int32} {x4 : Int32} {x5 : Int32} {x7 : Int32} {x8 : Int32} {x9 : Int32} {x10 : Int32} {x11 : Int32} {y0 : Int32} {S : Sg} (h : w_X8_reason_225 k112 Qa x2 x3 x4 x5 x7 x8 x9 x10 x11 y0 S) : V X p l e R s m args below meth c 12 (QM X below args s S0 ad0 rvI Qa) S0 ad0 S 225 [(0, Value.ref (enc 12 0)), (2, Value.int x2), (3, Value.int x3), (4, Value.int x4), (5, Value.int x5), (7, Value.int x7), (8, Value.int x8), (9, Value.int x9), (10, Value.int x10), (11, Value.int x11)] [Value.int y0] := by
  refine V_istore (pc := 225) C dX8_reason_225 (by decide) rfl ?_
  refine V_iload (pc := 227) C dX8_reason_227 6 rfl ?_
  refine V_if_ne (pc := 229) (tgt := 261) C dX8_reason_229 (by decide) h (fun h => ?_) (fun h => ?_)
  · refine V_sub [1, 2, 3, 4, 5, 0, 7, 8, 9] rfl ?_
    exact k_X8_reason_261 hT hl C hr hnm htab (fun h => hk112 h) h
  · refine V_aload_n (pc := 232) C dX8_reason_232 rfl 1 rfl ?_
    refine V_iload (pc := 233) C dX8_reason_233 8 rfl ?_
    refine V_callV (pc := 235) C (ct_X8_isOn hT hl h) g1162 g1164 g36 g1165 g64 ⟨by decide, by decide, pl_X8_isOn⟩ (enc_ne63 (by decide)) (ct_obj hT rfl (by decide)) rfl ⟨by decide, by decide⟩ (rest := []) rfl (le8 rfl) dX8_reason_235 (fun v3 S2 h => ?_) (fun k9 S9 hk h => VX_out C htab hk (h.2 (by omega)))
    replace h := h.1 rfl
    refine V_st (st' := [Value.int v3]) rfl ?_
    refine V_if_eq (pc := 238) (tgt := 265) C dX8_reason_238 (by decide) h (fun h => ?_) (fun h => ?_)
    · refine V_sub [1, 2, 3, 4, 5, 0, 7, 8, 9] rfl ?_
      exact k_X8_reason_265 hT hl C hr hnm htab (fun h => hk112 h) h
    · refine V_aload_n (pc := 241) C dX8_reason_241 rfl 1 rfl ?_
      refine V_getF (pc := 242) C hT f1_X8_23 g1001 dX8_reason_242 ?_
      refine V_iload (pc := 245) C dX8_reason_245 8 rfl ?_
      refine V_mld (pc := 247) C hT tb1_arr (n := 30) (c9 := 123) rfl rfl rfl h dX8_reason_247 (fun h => ?_)
      refine V_iload_n (pc := 248) C dX8_reason_248 rfl 2 rfl ?_
      refine V_icmp_eq (pc := 249) (tgt := 265) C dX8_reason_249 (by decide) h (fun h => ?_) (fun h => ?_)
      · refine V_sub [1, 2, 3, 4, 5, 0, 7, 8, 9] rfl ?_
        exact k_X8_reason_265 hT hl C hr hnm htab (fun h => hk112 h) h
      · refine V_iload (pc := 252) C dX8_reason_252 10 rfl ?_
        refine V_aload_n (pc := 254) C dX8_reason_254 rfl 1 rfl ?_
        refine V_getI (pc := 255) C hT f1_X8_1 g979 dX8_reason_255 ?_
        refine V_icmp_ge (pc := 258) (tgt := 265) C dX8_reason_258 (by decide) h (fun h => ?_) (fun h => ?_)
        · refine V_sub [1, 2, 3, 4, 5, 0, 7, 8, 9] rfl ?_
          exact k_X8_reason_265 hT hl C hr hnm htab (fun h => hk112 h) h
        · refine V_sub [1, 2, 3, 4, 5, 0, 7, 8, 9] rfl ?_
          exact k_X8_reason_261 hT hl C hr hnm htab (fun h => hk112 h) h
def w_X8_reason_224 (k112 : Int32 → Int32 → Int32 → Int32 → Int32 → Int32 → Int32 → Int32 → Sg → Prop) (Q : Nat → Int32 → Sg → Prop) (x2 : Int32) (x3 : Int32) (x4 : Int32) (x5 : Int32) (x7 : Int32) (x8 : Int32) (x9 : Int32) (x10 : Int32) (x11 : Int32) (S : Sg) : Prop := w_X8_reason_225 k112 Q x2 x3 x4 x5 x7 x8 x9 x10 x11 0 S
theorem k_X8_reason_224 (hT : xT X = tb1) (hl : l.stackTraces = false) (C : Cn X k0 p l R s m meth c cX8_reason RX8 12 2 21) (hr : meth.sig.returnType = (some .int)) (hnm : meth.name = yX8_reason.name) (htab : ∀ x ∈ c.exceptionTable.toList, False) {k112 : Int32 → Int32 → Int32 → Int32 → Int32 → Int32 → Int32 → Int32 → Sg → Prop} (hk112 : ∀ {x2 : Int32} {x3 : Int32} {x4 : Int32} {x5 : Int32} {x6 : Int32} {x7 : Int32} {x8 : Int32} {x9 : Int32} {S : Sg}, k112 x2 x3 x4 x5 x6 x7 x8 x9 S → V X p l e R s m args below meth c 12 (QM X below args s S0 ad0 rvI Qa) S0 ad0 S 112 [(0, Value.ref (enc 12 0)), (2, Value.int x2), (3, Value.int x3), (4, Value.int x4), (5, Value.int x5), (6, Value.int x6), (7, Value.int x7), (8, Value.int x8), (9, Value.int x9)] []) {x2 : Int32} {x3 : Int32} {x4 : Int32} {x5 : Int32} {x7 : Int32} {x8 : Int32} {x9 : Int32} {x10 : Int32} {x11 : Int32} {S : Sg} (h : w_X8_reason_224 k112 Qa x2 x3 x4 x5 x7 x8 x9 x10 x11 S) : V X p l e R s m args below meth c 12 (QM X below args s S0 ad0 rvI Qa) S0 ad0 S 224 [(0, Value.ref (enc 12 0)), (2, Value.int x2), (3, Value.int x3), (4, Value.int x4), (5, Value.int x5), (7, Value.int x7), (8, Value.int x8), (9, Value.int x9), (10, Value.int x10), (11, Value.int x11)] [] := by
  refine V_iconst (pc := 224) C (v := 0) dX8_reason_224 rfl ?_
  refine V_sub [0, 1, 2, 3, 4, 5, 6, 7, 8, 9] rfl ?_
  exact k_X8_reason_225 hT hl C hr hnm htab (fun h => hk112 h) h
def w_X8_reason_220 (k112 : Int32 → Int32 → Int32 → Int32 → Int32 → Int32 → Int32 → Int32 → Sg → Prop) (Q : Nat → Int32 → Sg → Prop) (x2 : Int32) (x3 : Int32) (x4 : Int32) (x5 : Int32) (x7 : Int32) (x8 : Int32) (x9 : Int32) (x10 : Int32) (x11 : Int32) (S : Sg) : Prop := w_X8_reason_225 k112 Q x2 x3 x4 x5 x7 x8 x9 x10 x11 1 S
theorem k_X8_reason_220 (hT : xT X = tb1) (hl : l.stackTraces = false) (C : Cn X k0 p l R s m meth c cX8_reason RX8 12 2 21) (hr : meth.sig.returnType = (some .int)) (hnm : meth.name = yX8_reason.name) (htab : ∀ x ∈ c.exceptionTable.toList, False) {k112 : Int32 → Int32 → Int32 → Int32 → Int32 → Int32 → Int32 → Int32 → Sg → Prop} (hk112 : ∀ {x2 : Int32} {x3 : Int32} {x4 : Int32} {x5 : Int32} {x6 : Int32} {x7 : Int32} {x8 : Int32} {x9 : Int32} {S : Sg}, k112 x2 x3 x4 x5 x6 x7 x8 x9 S → V X p l e R s m args below meth c 12 (QM X below args s S0 ad0 rvI Qa) S0 ad0 S 112 [(0, Value.ref (enc 12 0)), (2, Value.int x2), (3, Value.int x3), (4, Value.int x4), (5, Value.int x5), (6, Value.int x6), (7, Value.int x7), (8, Value.int x8), (9, Value.int x9)] []) {x2 : Int32} {x3 : Int32} {x4 : Int32} {x5 : Int32} {x7 : Int32} {x8 : Int32} {x9 : Int32} {x10 : Int32} {x11 : Int32} {S : Sg} (h : w_X8_reason_220 k112 Qa x2 x3 x4 x5 x7 x8 x9 x10 x11 S) : V X p l e R s m args below meth c 12 (QM X below args s S0 ad0 rvI Qa) S0 ad0 S 220 [(0, Value.ref (enc 12 0)), (2, Value.int x2), (3, Value.int x3), (4, Value.int x4), (5, Value.int x5), (7, Value.int x7), (8, Value.int x8), (9, Value.int x9), (10, Value.int x10), (11, Value.int x11)] [] := by
  refine V_iconst (pc := 220) C (v := 1) dX8_reason_220 rfl ?_
  refine V_goto (pc := 221) (tgt := 225) C dX8_reason_221 (by decide) ?_
  refine V_sub [0, 1, 2, 3, 4, 5, 6, 7, 8, 9] rfl ?_
  exact k_X8_reason_225 hT hl C hr hnm htab (fun h => hk112 h) h
def w_X8_reason_180 (k112 : Int32 → Int32 → Int32 → Int32 → Int32 → Int32 → Int32 → Int32 → Sg → Prop) (Q : Nat → Int32 → Sg → Prop) (x2 : Int32) (x3 : Int32) (x4 : Int32) (x5 : Int32) (x6 : Int32) (x7 : Int32) (x8 : Int32) (x9 : Int32) (x10 : Int32) (y0 : Int32) (S : Sg) : Prop := ((x6 = 0 → ((x10 = 0 → w_X8_reason_224 k112 Q x2 x3 x4 x5 x7 x8 x9 x10 y0 S) ∧ (¬ x10 = 0 → (w_X8_end x9 S (fun k7 v6 S5 => (k7 = 0 → (((v6 + 20) ≤ x3 → w_X8_reason_224 k112 Q x2 x3 x4 x5 x7 x8 x9 x10 y0 S5) ∧ (¬ (v6 + 20) ≤ x3 → (vp_in x9 30 ∧ (((x4 + 20) ≤ (S5.1 124 (nt x9)) → w_X8_reason_224 k112 Q x2 x3 x4 x5 x7 x8 x9 x10 y0 S5) ∧ (¬ (x4 + 20) ≤ (S5.1 124 (nt x9)) → w_X8_reason_220 k112 Q x2 x3 x4 x5 x7 x8 x9 x10 y0 S5)))))) ∧ (¬ k7 = 0 → Q k7 0 S5)))))) ∧ (¬ x6 = 0 → w_X8_reason_220 k112 Q x2 x3 x4 x5 x7 x8 x9 x10 y0 S))
theorem k_X8_reason_180 (hT : xT X = tb1) (hl : l.stackTraces = false) (C : Cn X k0 p l R s m meth c cX8_reason RX8 12 2 21) (hr : meth.sig.returnType = (some .int)) (hnm : meth.name = yX8_reason.name) (htab : ∀ x ∈ c.exceptionTable.toList, False) {k112 : Int32 → Int32 → Int32 → Int32 → Int32 → Int32 → Int32 → Int32 → Sg → Prop} (hk112 : ∀ {x2 : Int32} {x3 : Int32} {x4 : Int32} {x5 : Int32} {x6 : Int32} {x7 : Int32} {x8 : Int32} {x9 : Int32} {S : Sg}, k112 x2 x3 x4 x5 x6 x7 x8 x9 S → V X p l e R s m args below meth c 12 (QM X below args s S0 ad0 rvI Qa) S0 ad0 S 112 [(0, Value.ref (enc 12 0)), (2, Value.int x2), (3, Value.int x3), (4, Value.int x4), (5, Value.int x5), (6, Value.int x6), (7, Value.int x7), (8, Value.int x8), (9, Value.int x9)] []) {x2 : Int32} {x3 : Int32} {x4 : Int32} {x5 : Int32} {x6 : Int32} {x7 : Int32} {x8 : Int32} {x9 : Int32} {x10 : Int32} {y0 : Int32} {S : Sg} (h : w_X8_reason_180 k112 Qa x2 x3 x4 x5 x6 x7 x8 x9 x10 y0 S) : V X p l e R s m args below meth c 12 (QM X below args s S0 ad0 rvI Qa) S0 ad0 S 180 [(0, Value.ref (enc 12 0)), (2, Value.int x2), (3, Value.int x3), (4, Value.int x4), (5, Value.int x5), (6, Value.int x6), (7, Value.int x7), (8, Value.int x8), (9, Value.int x9), (10, Value.int x10)] [Value.int y0] := by
  refine V_istore (pc := 180) C dX8_reason_180 (by decide) rfl ?_
  refine V_iload (pc := 182) C dX8_reason_182 6 rfl ?_
  refine V_if_ne (pc := 184) (tgt := 220) C dX8_reason_184 (by decide) h (fun h => ?_) (fun h => ?_)
  · refine V_sub [1, 2, 3, 4, 5, 7, 8, 9, 10, 0] rfl ?_
    exact k_X8_reason_220 hT hl C hr hnm htab (fun h => hk112 h) h
  · refine V_iload (pc := 187) C dX8_reason_187 10 rfl ?_
    refine V_if_eq (pc := 189) (tgt := 224) C dX8_reason_189 (by decide) h (fun h => ?_) (fun h => ?_)
    · refine V_sub [1, 2, 3, 4, 5, 7, 8, 9, 10, 0] rfl ?_
      exact k_X8_reason_224 hT hl C hr hnm htab (fun h => hk112 h) h
    · refine V_aload_n (pc := 192) C dX8_reason_192 rfl 1 rfl ?_
      refine V_iload (pc := 193) C dX8_reason_193 9 rfl ?_
      refine V_callV (pc := 195) C (ct_X8_end hT hl h) g1166 g1168 g37 g1169 g64 ⟨by decide, by decide, pl_X8_end⟩ (enc_ne63 (by decide)) (ct_obj hT rfl (by decide)) rfl ⟨by decide, by decide⟩ (rest := []) rfl (le8 rfl) dX8_reason_195 (fun v6 S5 h => ?_) (fun k9 S9 hk h => VX_out C htab hk (h.2 (by omega)))
      replace h := h.1 rfl
      refine V_st (st' := [Value.int v6]) rfl ?_
      refine V_bipush (pc := 198) C (v := 20) dX8_reason_198 rfl ?_
      refine V_iadd (pc := 200) C dX8_reason_200 ?_
      refine V_iload_n (pc := 201) C dX8_reason_201 rfl 3 rfl ?_
      refine V_icmp_le (pc := 202) (tgt := 224) C dX8_reason_202 (by decide) h (fun h => ?_) (fun h => ?_)
      · refine V_sub [1, 2, 3, 4, 5, 7, 8, 9, 10, 0] rfl ?_
        exact k_X8_reason_224 hT hl C hr hnm htab (fun h => hk112 h) h
      · refine V_iload (pc := 205) C dX8_reason_205 4 rfl ?_
        refine V_bipush (pc := 207) C (v := 20) dX8_reason_207 rfl ?_
        refine V_iadd (pc := 209) C dX8_reason_209 ?_
        refine V_aload_n (pc := 210) C dX8_reason_210 rfl 1 rfl ?_
        refine V_getF (pc := 211) C hT f1_X8_24 g1002 dX8_reason_211 ?_
        refine V_iload (pc := 214) C dX8_reason_214 9 rfl ?_
        refine V_mld (pc := 216) C hT tb1_arr (n := 30) (c9 := 124) rfl rfl rfl h dX8_reason_216 (fun h => ?_)
        refine V_icmp_le (pc := 217) (tgt := 224) C dX8_reason_217 (by decide) h (fun h => ?_) (fun h => ?_)
        · refine V_sub [1, 2, 3, 4, 5, 7, 8, 9, 10, 0] rfl ?_
          exact k_X8_reason_224 hT hl C hr hnm htab (fun h => hk112 h) h
        · refine V_sub [1, 2, 3, 4, 5, 7, 8, 9, 10, 0] rfl ?_
          exact k_X8_reason_220 hT hl C hr hnm htab (fun h => hk112 h) h
def w_X8_reason_146 (k112 : Int32 → Int32 → Int32 → Int32 → Int32 → Int32 → Int32 → Int32 → Sg → Prop) (Q : Nat → Int32 → Sg → Prop) (x2 : Int32) (x3 : Int32) (x4 : Int32) (x5 : Int32) (x6 : Int32) (x7 : Int32) (x8 : Int32) (x9 : Int32) (y0 : Int32) (S : Sg) : Prop := (vp_in x9 30 ∧ (((S.1 124 (nt x9)) ≤ x3 → (vp_in x9 30 ∧ w_X8_reason_180 k112 Q x2 x3 x4 x5 x6 x7 x8 x9 y0 (x3 - (S.1 124 (nt x9))) S)) ∧ (¬ (S.1 124 (nt x9)) ≤ x3 → (vp_in x9 30 ∧ w_X8_reason_180 k112 Q x2 x3 x4 x5 x6 x7 x8 x9 y0 ((S.1 124 (nt x9)) - x3) S))))
theorem k_X8_reason_146 (hT : xT X = tb1) (hl : l.stackTraces = false) (C : Cn X k0 p l R s m meth c cX8_reason RX8 12 2 21) (hr : meth.sig.returnType = (some .int)) (hnm : meth.name = yX8_reason.name) (htab : ∀ x ∈ c.exceptionTable.toList, False) {k112 : Int32 → Int32 → Int32 → Int32 → Int32 → Int32 → Int32 → Int32 → Sg → Prop} (hk112 : ∀ {x2 : Int32} {x3 : Int32} {x4 : Int32} {x5 : Int32} {x6 : Int32} {x7 : Int32} {x8 : Int32} {x9 : Int32} {S : Sg}, k112 x2 x3 x4 x5 x6 x7 x8 x9 S → V X p l e R s m args below meth c 12 (QM X below args s S0 ad0 rvI Qa) S0 ad0 S 112 [(0, Value.ref (enc 12 0)), (2, Value.int x2), (3, Value.int x3), (4, Value.int x4), (5, Value.int x5), (6, Value.int x6), (7, Value.int x7), (8, Value.int x8), (9, Value.int x9)] []) {x2 : Int32} {x3 : Int32} {x4 : Int32} {x5 : Int32} {x6 : Int32} {x7 : Int32} {x8 : Int32} {x9 : Int32} {y0 : Int32} {S : Sg} (h : w_X8_reason_146 k112 Qa x2 x3 x4 x5 x6 x7 x8 x9 y0 S) : V X p l e R s m args below meth c 12 (QM X below args s S0 ad0 rvI Qa) S0 ad0 S 146 [(0, Value.ref (enc 12 0)), (2, Value.int x2), (3, Value.int x3), (4, Value.int x4), (5, Value.int x5), (6, Value.int x6), (7, Value.int x7), (8, Value.int x8), (9, Value.int x9)] [Value.int y0] := by
  refine V_istore (pc := 146) C dX8_reason_146 (by decide) rfl ?_
  refine V_aload_n (pc := 148) C dX8_reason_148 rfl 1 rfl ?_
  refine V_getF (pc := 149) C hT f1_X8_24 g1002 dX8_reason_149 ?_
  refine V_iload (pc := 152) C dX8_reason_152 9 rfl ?_
  refine V_mld (pc := 154) C hT tb1_arr (n := 30) (c9 := 124) rfl rfl rfl h dX8_reason_154 (fun h => ?_)
  refine V_iload_n (pc := 155) C dX8_reason_155 rfl 3 rfl ?_
  refine V_icmp_le (pc := 156) (tgt := 171) C dX8_reason_156 (by decide) h (fun h => ?_) (fun h => ?_)
  · refine V_iload_n (pc := 171) C dX8_reason_171 rfl 3 rfl ?_
    refine V_aload_n (pc := 172) C dX8_reason_172 rfl 1 rfl ?_
    refine V_getF (pc := 173) C hT f1_X8_24 g1002 dX8_reason_173 ?_
    refine V_iload (pc := 176) C dX8_reason_176 9 rfl ?_
    refine V_mld (pc := 178) C hT tb1_arr (n := 30) (c9 := 124) rfl rfl rfl h dX8_reason_178 (fun h => ?_)
    refine V_isub (pc := 179) C dX8_reason_179 ?_
    refine V_sub [1, 2, 3, 4, 5, 6, 7, 8, 9, 0] rfl ?_
    exact k_X8_reason_180 hT hl C hr hnm htab (fun h => hk112 h) h
  · refine V_aload_n (pc := 159) C dX8_reason_159 rfl 1 rfl ?_
    refine V_getF (pc := 160) C hT f1_X8_24 g1002 dX8_reason_160 ?_
    refine V_iload (pc := 163) C dX8_reason_163 9 rfl ?_
    refine V_mld (pc := 165) C hT tb1_arr (n := 30) (c9 := 124) rfl rfl rfl h dX8_reason_165 (fun h => ?_)
    refine V_iload_n (pc := 166) C dX8_reason_166 rfl 3 rfl ?_
    refine V_isub (pc := 167) C dX8_reason_167 ?_
    refine V_goto (pc := 168) (tgt := 180) C dX8_reason_168 (by decide) ?_
    refine V_sub [1, 2, 3, 4, 5, 6, 7, 8, 9, 0] rfl ?_
    exact k_X8_reason_180 hT hl C hr hnm htab (fun h => hk112 h) h
def w_X8_reason_145 (k112 : Int32 → Int32 → Int32 → Int32 → Int32 → Int32 → Int32 → Int32 → Sg → Prop) (Q : Nat → Int32 → Sg → Prop) (x2 : Int32) (x3 : Int32) (x4 : Int32) (x5 : Int32) (x6 : Int32) (x7 : Int32) (x8 : Int32) (x9 : Int32) (S : Sg) : Prop := w_X8_reason_146 k112 Q x2 x3 x4 x5 x6 x7 x8 x9 0 S
theorem k_X8_reason_145 (hT : xT X = tb1) (hl : l.stackTraces = false) (C : Cn X k0 p l R s m meth c cX8_reason RX8 12 2 21) (hr : meth.sig.returnType = (some .int)) (hnm : meth.name = yX8_reason.name) (htab : ∀ x ∈ c.exceptionTable.toList, False) {k112 : Int32 → Int32 → Int32 → Int32 → Int32 → Int32 → Int32 → Int32 → Sg → Prop} (hk112 : ∀ {x2 : Int32} {x3 : Int32} {x4 : Int32} {x5 : Int32} {x6 : Int32} {x7 : Int32} {x8 : Int32} {x9 : Int32} {S : Sg}, k112 x2 x3 x4 x5 x6 x7 x8 x9 S → V X p l e R s m args below meth c 12 (QM X below args s S0 ad0 rvI Qa) S0 ad0 S 112 [(0, Value.ref (enc 12 0)), (2, Value.int x2), (3, Value.int x3), (4, Value.int x4), (5, Value.int x5), (6, Value.int x6), (7, Value.int x7), (8, Value.int x8), (9, Value.int x9)] []) {x2 : Int32} {x3 : Int32} {x4 : Int32} {x5 : Int32} {x6 : Int32} {x7 : Int32} {x8 : Int32} {x9 : Int32} {S : Sg} (h : w_X8_reason_145 k112 Qa x2 x3 x4 x5 x6 x7 x8 x9 S) : V X p l e R s m args below meth c 12 (QM X below args s S0 ad0 rvI Qa) S0 ad0 S 145 [(0, Value.ref (enc 12 0)), (2, Value.int x2), (3, Value.int x3), (4, Value.int x4), (5, Value.int x5), (6, Value.int x6), (7, Value.int x7), (8, Value.int x8), (9, Value.int x9)] [] := by
  refine V_iconst (pc := 145) C (v := 0) dX8_reason_145 rfl ?_
  refine V_sub [0, 1, 2, 3, 4, 5, 6, 7, 8] rfl ?_
  exact k_X8_reason_146 hT hl C hr hnm htab (fun h => hk112 h) h
def w_X8_reason_112  (Q : Nat → Int32 → Sg → Prop) : Nat → Int32 → Int32 → Int32 → Int32 → Int32 → Int32 → Int32 → Int32 → Sg → Prop
  | 0, _, _, _, _, _, _, _, _, _ => False
  | n + 1, x2, x3, x4, x5, x6, x7, x8, x9, S => (((S.1 321 0) ≤ x9 → ((x5 = 0 → Q 0 1 S) ∧ (¬ x5 = 0 → ((x6 = 0 → ((x7 = 0 → (vp_in x2 4 ∧ ((x8 ≤ (S.1 106 (nt x2)) → Q 0 0 S) ∧ (¬ x8 ≤ (S.1 106 (nt x2)) → Q 0 4 S)))) ∧ (¬ x7 = 0 → Q 0 3 S))) ∧ (¬ x6 = 0 → Q 0 2 S))))) ∧ (¬ (S.1 321 0) ≤ x9 → (w_X8_isOn x9 S (fun k10 v9 S8 => (k10 = 0 → ((v9 = 0 → w_X8_reason_145 (fun x2 x3 x4 x5 x6 x7 x8 x9 S => w_X8_reason_112  Q n x2 x3 x4 x5 x6 x7 x8 x9 S) Q x2 x3 x4 x5 x6 x7 x8 x9 S8) ∧ (¬ v9 = 0 → (vp_in x9 30 ∧ (((S8.1 123 (nt x9)) = x2 → w_X8_reason_146 (fun x2 x3 x4 x5 x6 x7 x8 x9 S => w_X8_reason_112  Q n x2 x3 x4 x5 x6 x7 x8 x9 S) Q x2 x3 x4 x5 x6 x7 x8 x9 1 S8) ∧ (¬ (S8.1 123 (nt x9)) = x2 → w_X8_reason_145 (fun x2 x3 x4 x5 x6 x7 x8 x9 S => w_X8_reason_112  Q n x2 x3 x4 x5 x6 x7 x8 x9 S) Q x2 x3 x4 x5 x6 x7 x8 x9 S8)))))) ∧ (¬ k10 = 0 → Q k10 0 S8)))))
theorem k_X8_reason_112 (hT : xT X = tb1) (hl : l.stackTraces = false) (C : Cn X k0 p l R s m meth c cX8_reason RX8 12 2 21) (hr : meth.sig.returnType = (some .int)) (hnm : meth.name = yX8_reason.name) (htab : ∀ x ∈ c.exceptionTable.toList, False)  : ∀ n {x2 : Int32} {x3 : Int32} {x4 : Int32} {x5 : Int32} {x6 : Int32} {x7 : Int32} {x8 : Int32} {x9 : Int32} {S : Sg}, w_X8_reason_112  Qa n x2 x3 x4 x5 x6 x7 x8 x9 S → V X p l e R s m args below meth c 12 (QM X below args s S0 ad0 rvI Qa) S0 ad0 S 112 [(0, Value.ref (enc 12 0)), (2, Value.int x2), (3, Value.int x3), (4, Value.int x4), (5, Value.int x5), (6, Value.int x6), (7, Value.int x7), (8, Value.int x8), (9, Value.int x9)] [] := by
  intro n
  induction n with
  | zero => intro x2 x3 x4 x5 x6 x7 x8 x9 S h; exact h.elim
  | succ n ih =>
    intro x2 x3 x4 x5 x6 x7 x8 x9 S h
    refine V_iload (pc := 112) C dX8_reason_112 8 rfl ?_
    refine V_aload_n (pc := 114) C dX8_reason_114 rfl 0 rfl ?_
    refine V_getI (pc := 115) C hT f1_X8_21 g999 dX8_reason_115 ?_
    refine V_icmp_ge (pc := 118) (tgt := 300) C dX8_reason_118 (by decide) h (fun h => ?_) (fun h => ?_)
    · refine V_iload (pc := 300) C dX8_reason_300 4 rfl ?_
      refine V_if_ne (pc := 302) (tgt := 309) C dX8_reason_302 (by decide) h (fun h => ?_) (fun h => ?_)
      · refine V_iload (pc := 309) C dX8_reason_309 5 rfl ?_
        refine V_if_eq (pc := 311) (tgt := 318) C dX8_reason_311 (by decide) h (fun h => ?_) (fun h => ?_)
        · refine V_iload (pc := 318) C dX8_reason_318 6 rfl ?_
          refine V_if_eq (pc := 320) (tgt := 327) C dX8_reason_320 (by decide) h (fun h => ?_) (fun h => ?_)
          · refine V_iload (pc := 327) C dX8_reason_327 7 rfl ?_
            refine V_aload_n (pc := 329) C dX8_reason_329 rfl 0 rfl ?_
            refine V_getF (pc := 330) C hT f1_X8_6 g984 dX8_reason_330 ?_
            refine V_iload_n (pc := 333) C dX8_reason_333 rfl 1 rfl ?_
            refine V_mld (pc := 334) C hT tb1_arr (n := 4) (c9 := 106) rfl rfl rfl h dX8_reason_334 (fun h => ?_)
            refine V_icmp_le (pc := 335) (tgt := 342) C dX8_reason_335 (by decide) h (fun h => ?_) (fun h => ?_)
            · refine V_iconst (pc := 342) C (v := 0) dX8_reason_342 rfl ?_
              exact V_iret (pc := 343) C hr rfl h dX8_reason_343
            · refine V_iconst (pc := 338) C (v := 4) dX8_reason_338 rfl ?_
              refine V_goto (pc := 339) (tgt := 343) C dX8_reason_339 (by decide) ?_
              exact V_iret (pc := 343) C hr rfl h dX8_reason_343
          · refine V_iconst (pc := 323) C (v := 3) dX8_reason_323 rfl ?_
            refine V_goto (pc := 324) (tgt := 343) C dX8_reason_324 (by decide) ?_
            exact V_iret (pc := 343) C hr rfl h dX8_reason_343
        · refine V_iconst (pc := 314) C (v := 2) dX8_reason_314 rfl ?_
          refine V_goto (pc := 315) (tgt := 343) C dX8_reason_315 (by decide) ?_
          exact V_iret (pc := 343) C hr rfl h dX8_reason_343
      · refine V_iconst (pc := 305) C (v := 1) dX8_reason_305 rfl ?_
        refine V_goto (pc := 306) (tgt := 343) C dX8_reason_306 (by decide) ?_
        exact V_iret (pc := 343) C hr rfl h dX8_reason_343
    · refine V_aload_n (pc := 121) C dX8_reason_121 rfl 0 rfl ?_
      refine V_iload (pc := 122) C dX8_reason_122 8 rfl ?_
      refine V_callV (pc := 124) C (ct_X8_isOn hT hl h) g1162 g1164 g36 g1165 g64 ⟨by decide, by decide, pl_X8_isOn⟩ (enc_ne63 (by decide)) (ct_obj hT rfl (by decide)) rfl ⟨by decide, by decide⟩ (rest := []) rfl (le8 rfl) dX8_reason_124 (fun v9 S8 h => ?_) (fun k9 S9 hk h => VX_out C htab hk (h.2 (by omega)))
      replace h := h.1 rfl
      refine V_st (st' := [Value.int v9]) rfl ?_
      refine V_if_eq (pc := 127) (tgt := 145) C dX8_reason_127 (by decide) h (fun h => ?_) (fun h => ?_)
      · refine V_sub [0, 1, 2, 3, 4, 5, 6, 7, 8] rfl ?_
        exact k_X8_reason_145 hT hl C hr hnm htab (fun h => ih h) h
      · refine V_aload_n (pc := 130) C dX8_reason_130 rfl 0 rfl ?_
        refine V_getF (pc := 131) C hT f1_X8_23 g1001 dX8_reason_131 ?_
        refine V_iload (pc := 134) C dX8_reason_134 8 rfl ?_
        refine V_mld (pc := 136) C hT tb1_arr (n := 30) (c9 := 123) rfl rfl rfl h dX8_reason_136 (fun h => ?_)
        refine V_iload_n (pc := 137) C dX8_reason_137 rfl 1 rfl ?_
        refine V_icmp_ne (pc := 138) (tgt := 145) C dX8_reason_138 (by decide) h (fun h => ?_) (fun h => ?_)
        · refine V_sub [0, 1, 2, 3, 4, 5, 6, 7, 8] rfl ?_
          exact k_X8_reason_145 hT hl C hr hnm htab (fun h => ih h) h
        · refine V_iconst (pc := 141) C (v := 1) dX8_reason_141 rfl ?_
          refine V_goto (pc := 142) (tgt := 146) C dX8_reason_142 (by decide) ?_
          refine V_sub [0, 1, 2, 3, 4, 5, 6, 7, 8] rfl ?_
          exact k_X8_reason_146 hT hl C hr hnm htab (fun h => ih h) h
def w_X8_reason_80 (k16 : Int32 → Int32 → Int32 → Int32 → Int32 → Int32 → Sg → Prop) (Q : Nat → Int32 → Sg → Prop) (x1 : Int32) (x2 : Int32) (x3 : Int32) (x4 : Int32) (x6 : Int32) (y0 : Int32) (S : Sg) : Prop := k16 x1 x2 x3 x4 y0 (x6 + 1) S
theorem k_X8_reason_80 (hT : xT X = tb1) (hl : l.stackTraces = false) (C : Cn X k0 p l R s m meth c cX8_reason RX8 12 2 21) (hr : meth.sig.returnType = (some .int)) (hnm : meth.name = yX8_reason.name) (htab : ∀ x ∈ c.exceptionTable.toList, False) {k16 : Int32 → Int32 → Int32 → Int32 → Int32 → Int32 → Sg → Prop} (hk16 : ∀ {x1 : Int32} {x2 : Int32} {x3 : Int32} {x4 : Int32} {x5 : Int32} {x6 : Int32} {S : Sg}, k16 x1 x2 x3 x4 x5 x6 S → V X p l e R s m args below meth c 12 (QM X below args s S0 ad0 rvI Qa) S0 ad0 S 16 [(0, Value.ref (enc 12 0)), (1, Value.int x1), (2, Value.int x2), (3, Value.int x3), (4, Value.int x4), (5, Value.int x5), (6, Value.int x6)] []) {x1 : Int32} {x2 : Int32} {x3 : Int32} {x4 : Int32} {x6 : Int32} {y0 : Int32} {S : Sg} (h : w_X8_reason_80 k16 Qa x1 x2 x3 x4 x6 y0 S) : V X p l e R s m args below meth c 12 (QM X below args s S0 ad0 rvI Qa) S0 ad0 S 80 [(0, Value.ref (enc 12 0)), (1, Value.int x1), (2, Value.int x2), (3, Value.int x3), (4, Value.int x4), (6, Value.int x6)] [Value.int y0] := by
  refine V_istore (pc := 80) C dX8_reason_80 (by decide) rfl ?_
  refine V_iinc (pc := 82) C (a := 6) (v := x6 + 1) dX8_reason_82 rfl rfl (by decide) rfl ?_
  refine V_goto (pc := 85) (tgt := 16) C dX8_reason_85 (by decide) ?_
  refine V_sub [2, 3, 4, 5, 6, 1, 0] rfl ?_
  exact hk16 h
def w_X8_reason_79 (k16 : Int32 → Int32 → Int32 → Int32 → Int32 → Int32 → Sg → Prop) (Q : Nat → Int32 → Sg → Prop) (x1 : Int32) (x2 : Int32) (x3 : Int32) (x4 : Int32) (x6 : Int32) (S : Sg) : Prop := w_X8_reason_80 k16 Q x1 x2 x3 x4 x6 0 S
theorem k_X8_reason_79 (hT : xT X = tb1) (hl : l.stackTraces = false) (C : Cn X k0 p l R s m meth c cX8_reason RX8 12 2 21) (hr : meth.sig.returnType = (some .int)) (hnm : meth.name = yX8_reason.name) (htab : ∀ x ∈ c.exceptionTable.toList, False) {k16 : Int32 → Int32 → Int32 → Int32 → Int32 → Int32 → Sg → Prop} (hk16 : ∀ {x1 : Int32} {x2 : Int32} {x3 : Int32} {x4 : Int32} {x5 : Int32} {x6 : Int32} {S : Sg}, k16 x1 x2 x3 x4 x5 x6 S → V X p l e R s m args below meth c 12 (QM X below args s S0 ad0 rvI Qa) S0 ad0 S 16 [(0, Value.ref (enc 12 0)), (1, Value.int x1), (2, Value.int x2), (3, Value.int x3), (4, Value.int x4), (5, Value.int x5), (6, Value.int x6)] []) {x1 : Int32} {x2 : Int32} {x3 : Int32} {x4 : Int32} {x6 : Int32} {S : Sg} (h : w_X8_reason_79 k16 Qa x1 x2 x3 x4 x6 S) : V X p l e R s m args below meth c 12 (QM X below args s S0 ad0 rvI Qa) S0 ad0 S 79 [(0, Value.ref (enc 12 0)), (1, Value.int x1), (2, Value.int x2), (3, Value.int x3), (4, Value.int x4), (6, Value.int x6)] [] := by
  refine V_iconst (pc := 79) C (v := 0) dX8_reason_79 rfl ?_
  refine V_sub [0, 1, 2, 3, 4, 5] rfl ?_
  exact k_X8_reason_80 hT hl C hr hnm htab (fun h => hk16 h) h
def w_X8_reason_75 (k16 : Int32 → Int32 → Int32 → Int32 → Int32 → Int32 → Sg → Prop) (Q : Nat → Int32 → Sg → Prop) (x1 : Int32) (x2 : Int32) (x3 : Int32) (x4 : Int32) (x6 : Int32) (S : Sg) : Prop := w_X8_reason_80 k16 Q x1 x2 x3 x4 x6 1 S
theorem k_X8_reason_75 (hT : xT X = tb1) (hl : l.stackTraces = false) (C : Cn X k0 p l R s m meth c cX8_reason RX8 12 2 21) (hr : meth.sig.returnType = (some .int)) (hnm : meth.name = yX8_reason.name) (htab : ∀ x ∈ c.exceptionTable.toList, False) {k16 : Int32 → Int32 → Int32 → Int32 → Int32 → Int32 → Sg → Prop} (hk16 : ∀ {x1 : Int32} {x2 : Int32} {x3 : Int32} {x4 : Int32} {x5 : Int32} {x6 : Int32} {S : Sg}, k16 x1 x2 x3 x4 x5 x6 S → V X p l e R s m args below meth c 12 (QM X below args s S0 ad0 rvI Qa) S0 ad0 S 16 [(0, Value.ref (enc 12 0)), (1, Value.int x1), (2, Value.int x2), (3, Value.int x3), (4, Value.int x4), (5, Value.int x5), (6, Value.int x6)] []) {x1 : Int32} {x2 : Int32} {x3 : Int32} {x4 : Int32} {x6 : Int32} {S : Sg} (h : w_X8_reason_75 k16 Qa x1 x2 x3 x4 x6 S) : V X p l e R s m args below meth c 12 (QM X below args s S0 ad0 rvI Qa) S0 ad0 S 75 [(0, Value.ref (enc 12 0)), (1, Value.int x1), (2, Value.int x2), (3, Value.int x3), (4, Value.int x4), (6, Value.int x6)] [] := by
  refine V_iconst (pc := 75) C (v := 1) dX8_reason_75 rfl ?_
  refine V_goto (pc := 76) (tgt := 80) C dX8_reason_76 (by decide) ?_
  refine V_sub [0, 1, 2, 3, 4, 5] rfl ?_
  exact k_X8_reason_80 hT hl C hr hnm htab (fun h => hk16 h) h
def w_X8_reason_16  (Q : Nat → Int32 → Sg → Prop) : Nat → Int32 → Int32 → Int32 → Int32 → Int32 → Int32 → Sg → Prop
  | 0, _, _, _, _, _, _, _ => False
  | n + 1, x1, x2, x3, x4, x5, x6, S => (((S.1 316 0) ≤ x6 → (vp_in x2 4 ∧ (vp_in x1 8 ∧ (∀ v11, v11 = (S.1 105 (nt x2)) + (S.1 108 (nt x1)) → ∃ n9, w_X8_reason_112  Q n9 x2 x3 x4 x5 0 0 v11 0 S)))) ∧ (¬ (S.1 316 0) ≤ x6 → ((x5 = 0 → (vp_in x6 30 ∧ (((S.1 117 (nt x6)) = x1 → (vp_in x6 30 ∧ (((S.1 118 (nt x6)) = x2 → (vp_in x6 30 ∧ ((x3 < (S.1 119 (nt x6)) → w_X8_reason_79 (fun x1 x2 x3 x4 x5 x6 S => w_X8_reason_16  Q n x1 x2 x3 x4 x5 x6 S) Q x1 x2 x3 x4 x6 S) ∧ (¬ x3 < (S.1 119 (nt x6)) → (vp_in x6 30 ∧ (((S.1 120 (nt x6)) < x4 → w_X8_reason_79 (fun x1 x2 x3 x4 x5 x6 S => w_X8_reason_16  Q n x1 x2 x3 x4 x5 x6 S) Q x1 x2 x3 x4 x6 S) ∧ (¬ (S.1 120 (nt x6)) < x4 → w_X8_reason_75 (fun x1 x2 x3 x4 x5 x6 S => w_X8_reason_16  Q n x1 x2 x3 x4 x5 x6 S) Q x1 x2 x3 x4 x6 S))))))) ∧ (¬ (S.1 118 (nt x6)) = x2 → w_X8_reason_79 (fun x1 x2 x3 x4 x5 x6 S => w_X8_reason_16  Q n x1 x2 x3 x4 x5 x6 S) Q x1 x2 x3 x4 x6 S)))) ∧ (¬ (S.1 117 (nt x6)) = x1 → w_X8_reason_79 (fun x1 x2 x3 x4 x5 x6 S => w_X8_reason_16  Q n x1 x2 x3 x4 x5 x6 S) Q x1 x2 x3 x4 x6 S)))) ∧ (¬ x5 = 0 → w_X8_reason_75 (fun x1 x2 x3 x4 x5 x6 S => w_X8_reason_16  Q n x1 x2 x3 x4 x5 x6 S) Q x1 x2 x3 x4 x6 S))))
theorem k_X8_reason_16 (hT : xT X = tb1) (hl : l.stackTraces = false) (C : Cn X k0 p l R s m meth c cX8_reason RX8 12 2 21) (hr : meth.sig.returnType = (some .int)) (hnm : meth.name = yX8_reason.name) (htab : ∀ x ∈ c.exceptionTable.toList, False)  : ∀ n {x1 : Int32} {x2 : Int32} {x3 : Int32} {x4 : Int32} {x5 : Int32} {x6 : Int32} {S : Sg}, w_X8_reason_16  Qa n x1 x2 x3 x4 x5 x6 S → V X p l e R s m args below meth c 12 (QM X below args s S0 ad0 rvI Qa) S0 ad0 S 16 [(0, Value.ref (enc 12 0)), (1, Value.int x1), (2, Value.int x2), (3, Value.int x3), (4, Value.int x4), (5, Value.int x5), (6, Value.int x6)] [] := by
  intro n
  induction n with
  | zero => intro x1 x2 x3 x4 x5 x6 S h; exact h.elim
  | succ n ih =>
    intro x1 x2 x3 x4 x5 x6 S h
    refine V_iload (pc := 16) C dX8_reason_16 6 rfl ?_
    refine V_aload_n (pc := 18) C dX8_reason_18 rfl 0 rfl ?_
    refine V_getI (pc := 19) C hT f1_X8_16 g994 dX8_reason_19 ?_
    refine V_icmp_ge (pc := 22) (tgt := 88) C dX8_reason_22 (by decide) h (fun h => ?_) (fun h => ?_)
    · refine V_iconst (pc := 88) C (v := 0) dX8_reason_88 rfl ?_
      refine V_istore (pc := 89) C dX8_reason_89 (by decide) rfl ?_
      refine V_iconst (pc := 91) C (v := 0) dX8_reason_91 rfl ?_
      refine V_istore (pc := 92) C dX8_reason_92 (by decide) rfl ?_
      refine V_aload_n (pc := 94) C dX8_reason_94 rfl 2 rfl ?_
      refine V_getF (pc := 95) C hT f1_X8_5 g983 dX8_reason_95 ?_
      refine V_iload_n (pc := 98) C dX8_reason_98 rfl 4 rfl ?_
      refine V_mld (pc := 99) C hT tb1_arr (n := 4) (c9 := 105) rfl rfl rfl h dX8_reason_99 (fun h => ?_)
      refine V_aload_n (pc := 100) C dX8_reason_100 rfl 2 rfl ?_
      refine V_getF (pc := 101) C hT f1_X8_8 g986 dX8_reason_101 ?_
      refine V_iload_n (pc := 104) C dX8_reason_104 rfl 3 rfl ?_
      refine V_mld (pc := 105) C hT tb1_arr (n := 8) (c9 := 108) rfl rfl rfl h dX8_reason_105 (fun h => ?_)
      refine V_iadd (pc := 106) C dX8_reason_106 ?_
      refine V_nI fun v11 e9 => ?_
      replace h := h v11 e9; clear e9
      refine V_istore (pc := 107) C dX8_reason_107 (by decide) rfl ?_
      refine V_iconst (pc := 109) C (v := 0) dX8_reason_109 rfl ?_
      refine V_istore (pc := 110) C dX8_reason_110 (by decide) rfl ?_
      refine V_sub [4, 6, 7, 8, 9, 3, 2, 1, 0] rfl ?_
      obtain ⟨n9, h⟩ := h
      exact k_X8_reason_112 hT hl C hr hnm htab  n9 h
    · refine V_iload (pc := 25) C dX8_reason_25 5 rfl ?_
      refine V_if_ne (pc := 27) (tgt := 75) C dX8_reason_27 (by decide) h (fun h => ?_) (fun h => ?_)
      · refine V_sub [0, 1, 2, 3, 4, 6] rfl ?_
        exact k_X8_reason_75 hT hl C hr hnm htab (fun h => ih h) h
      · refine V_aload_n (pc := 30) C dX8_reason_30 rfl 0 rfl ?_
        refine V_getF (pc := 31) C hT f1_X8_17 g995 dX8_reason_31 ?_
        refine V_iload (pc := 34) C dX8_reason_34 6 rfl ?_
        refine V_mld (pc := 36) C hT tb1_arr (n := 30) (c9 := 117) rfl rfl rfl h dX8_reason_36 (fun h => ?_)
        refine V_iload_n (pc := 37) C dX8_reason_37 rfl 1 rfl ?_
        refine V_icmp_ne (pc := 38) (tgt := 79) C dX8_reason_38 (by decide) h (fun h => ?_) (fun h => ?_)
        · refine V_sub [0, 1, 2, 3, 4, 6] rfl ?_
          exact k_X8_reason_79 hT hl C hr hnm htab (fun h => ih h) h
        · refine V_aload_n (pc := 41) C dX8_reason_41 rfl 0 rfl ?_
          refine V_getF (pc := 42) C hT f1_X8_18 g996 dX8_reason_42 ?_
          refine V_iload (pc := 45) C dX8_reason_45 6 rfl ?_
          refine V_mld (pc := 47) C hT tb1_arr (n := 30) (c9 := 118) rfl rfl rfl h dX8_reason_47 (fun h => ?_)
          refine V_iload_n (pc := 48) C dX8_reason_48 rfl 2 rfl ?_
          refine V_icmp_ne (pc := 49) (tgt := 79) C dX8_reason_49 (by decide) h (fun h => ?_) (fun h => ?_)
          · refine V_sub [0, 1, 2, 3, 4, 6] rfl ?_
            exact k_X8_reason_79 hT hl C hr hnm htab (fun h => ih h) h
          · refine V_aload_n (pc := 52) C dX8_reason_52 rfl 0 rfl ?_
            refine V_getF (pc := 53) C hT f1_X8_19 g997 dX8_reason_53 ?_
            refine V_iload (pc := 56) C dX8_reason_56 6 rfl ?_
            refine V_mld (pc := 58) C hT tb1_arr (n := 30) (c9 := 119) rfl rfl rfl h dX8_reason_58 (fun h => ?_)
            refine V_iload_n (pc := 59) C dX8_reason_59 rfl 3 rfl ?_
            refine V_icmp_gt (pc := 60) (tgt := 79) C dX8_reason_60 (by decide) h (fun h => ?_) (fun h => ?_)
            · refine V_sub [0, 1, 2, 3, 4, 6] rfl ?_
              exact k_X8_reason_79 hT hl C hr hnm htab (fun h => ih h) h
            · refine V_aload_n (pc := 63) C dX8_reason_63 rfl 0 rfl ?_
              refine V_getF (pc := 64) C hT f1_X8_20 g998 dX8_reason_64 ?_
              refine V_iload (pc := 67) C dX8_reason_67 6 rfl ?_
              refine V_mld (pc := 69) C hT tb1_arr (n := 30) (c9 := 120) rfl rfl rfl h dX8_reason_69 (fun h => ?_)
              refine V_iload (pc := 70) C dX8_reason_70 4 rfl ?_
              refine V_icmp_lt (pc := 72) (tgt := 79) C dX8_reason_72 (by decide) h (fun h => ?_) (fun h => ?_)
              · refine V_sub [0, 1, 2, 3, 4, 6] rfl ?_
                exact k_X8_reason_79 hT hl C hr hnm htab (fun h => ih h) h
              · refine V_sub [0, 1, 2, 3, 4, 6] rfl ?_
                exact k_X8_reason_75 hT hl C hr hnm htab (fun h => ih h) h
def w_X8_reason (a1 : Int32) (a2 : Int32) (a3 : Int32) (S : Sg) (Q : Nat → Int32 → Sg → Prop) : Prop := (vp_in a1 8 ∧ (∀ v12, v12 = a3 + (S.1 108 (nt a1)) → ∃ n9, w_X8_reason_16  Q n9 a1 a2 a3 v12 0 0 S))
theorem ct_X8_reason (hT : xT X = tb1) (hl : l.stackTraces = false) {a1 : Int32} {a2 : Int32} {a3 : Int32} {S : Sg} (h : w_X8_reason a1 a2 a3 S Qa) : CT X k0 l yX8_reason cX8_reason 12 (some .int) 2 21 [Value.ref (enc 12 0), Value.int a1, Value.int a2, Value.int a3] rvI S Qa :=
  CT_ofV (own := RX8) (by decide +kernel) (le8 rfl) rfl hl fun p e R s m args below meth c ad0 C hr hnm htab => by
    refine V_iload_n (pc := 0) C dX8_reason_0 rfl 3 rfl ?_
    refine V_aload_n (pc := 1) C dX8_reason_1 rfl 0 rfl ?_
    refine V_getF (pc := 2) C hT f1_X8_8 g986 dX8_reason_2 ?_
    refine V_iload_n (pc := 5) C dX8_reason_5 rfl 1 rfl ?_
    refine V_mld (pc := 6) C hT tb1_arr (n := 8) (c9 := 108) rfl rfl rfl h dX8_reason_6 (fun h => ?_)
    refine V_iadd (pc := 7) C dX8_reason_7 ?_
    refine V_nI fun v12 e9 => ?_
    replace h := h v12 e9; clear e9
    refine V_istore (pc := 8) C dX8_reason_8 (by decide) rfl ?_
    refine V_iconst (pc := 10) C (v := 0) dX8_reason_10 rfl ?_
    refine V_istore (pc := 11) C dX8_reason_11 (by decide) rfl ?_
    refine V_iconst (pc := 13) C (v := 0) dX8_reason_13 rfl ?_
    refine V_istore (pc := 14) C dX8_reason_14 (by decide) rfl ?_
    refine V_sub [3, 4, 5, 6, 2, 1, 0] rfl ?_
    obtain ⟨n9, h⟩ := h
    exact k_X8_reason_16 hT hl C hr hnm htab  n9 h
theorem pl_X8_show : (parseMethodDescriptor yX8_show.desc).map (fun d => d.parameters.length) = some 3 := by decide +kernel
def w_X8_show_80  (Q : Nat → Int32 → Sg → Prop) (x1 : Int32) (x2 : Int32) (x3 : Int32) (y0 : Int32) (S : Sg) : Prop := (w_X8_fails y0 S (fun k3 v2 S1 => (k3 = 0 → ((v2 = 0 → (vp_in (S1.1 321 0) 30 ∧ (∀ S4, S4 = su S1 122 (nt (S1.1 321 0)) x1 → (vp_in (S4.1 321 0) 30 ∧ (∀ S5, S5 = su S4 123 (nt (S4.1 321 0)) x2 → (vp_in (S5.1 321 0) 30 ∧ (∀ S6, S6 = su S5 124 (nt (S5.1 321 0)) x3 → (∀ S7, S7 = su S6 321 0 ((S6.1 321 0) + 1) → Q 0 ((S7.1 321 0) - 1) S7)))))))) ∧ (¬ v2 = 0 → Q 0 0 S1))) ∧ (¬ k3 = 0 → Q k3 0 S1)))
theorem k_X8_show_80 (hT : xT X = tb1) (hl : l.stackTraces = false) (C : Cn X k0 p l R s m meth c cX8_show RX8 6 3 52) (hr : meth.sig.returnType = (some .int)) (hnm : meth.name = yX8_show.name) (htab : ∀ x ∈ c.exceptionTable.toList, False)  {x1 : Int32} {x2 : Int32} {x3 : Int32} {y0 : Int32} {S : Sg} (h : w_X8_show_80  Qa x1 x2 x3 y0 S) : V X p l e R s m args below meth c 6 (QM X below args s S0 ad0 rvI Qa) S0 ad0 S 80 [(0, Value.ref (enc 12 0)), (1, Value.int x1), (2, Value.int x2), (3, Value.int x3)] [Value.int y0, Value.ref (enc 12 0)] := by
  refine V_callV (pc := 80) C (ct_X8_fails hT hl h) g1120 g1122 g32 g1123 g64 ⟨by decide, by decide, pl_X8_fails⟩ (enc_ne63 (by decide)) (ct_obj hT rfl (by decide)) rfl ⟨by decide, by decide⟩ (rest := []) rfl (le8 rfl) dX8_show_80 (fun v2 S1 h => ?_) (fun k9 S9 hk h => VX_out C htab hk (h.2 (by omega)))
  replace h := h.1 rfl
  refine V_st (st' := [Value.int v2]) rfl ?_
  refine V_if_eq (pc := 83) (tgt := 88) C dX8_show_83 (by decide) h (fun h => ?_) (fun h => ?_)
  · refine V_aload_n (pc := 88) C dX8_show_88 rfl 0 rfl ?_
    refine V_getF (pc := 89) C hT f1_X8_22 g1000 dX8_show_89 ?_
    refine V_aload_n (pc := 92) C dX8_show_92 rfl 0 rfl ?_
    refine V_getI (pc := 93) C hT f1_X8_21 g999 dX8_show_93 ?_
    refine V_iload_n (pc := 96) C dX8_show_96 rfl 1 rfl ?_
    refine V_mst (pc := 97) C hT tb1_arr (n := 30) (c9 := 122) (by decide) rfl rfl rfl h dX8_show_97 (fun h => V_nx fun S4 e9 => ?_)
    replace h := h S4 e9; clear e9
    refine V_aload_n (pc := 98) C dX8_show_98 rfl 0 rfl ?_
    refine V_getF (pc := 99) C hT f1_X8_23 g1001 dX8_show_99 ?_
    refine V_aload_n (pc := 102) C dX8_show_102 rfl 0 rfl ?_
    refine V_getI (pc := 103) C hT f1_X8_21 g999 dX8_show_103 ?_
    refine V_iload_n (pc := 106) C dX8_show_106 rfl 2 rfl ?_
    refine V_mst (pc := 107) C hT tb1_arr (n := 30) (c9 := 123) (by decide) rfl rfl rfl h dX8_show_107 (fun h => V_nx fun S5 e9 => ?_)
    replace h := h S5 e9; clear e9
    refine V_aload_n (pc := 108) C dX8_show_108 rfl 0 rfl ?_
    refine V_getF (pc := 109) C hT f1_X8_24 g1002 dX8_show_109 ?_
    refine V_aload_n (pc := 112) C dX8_show_112 rfl 0 rfl ?_
    refine V_getI (pc := 113) C hT f1_X8_21 g999 dX8_show_113 ?_
    refine V_iload_n (pc := 116) C dX8_show_116 rfl 3 rfl ?_
    refine V_mst (pc := 117) C hT tb1_arr (n := 30) (c9 := 124) (by decide) rfl rfl rfl h dX8_show_117 (fun h => V_nx fun S6 e9 => ?_)
    replace h := h S6 e9; clear e9
    refine V_aload_n (pc := 118) C dX8_show_118 rfl 0 rfl ?_
    refine V_dup (pc := 119) C dX8_show_119 rfl ?_
    refine V_getI (pc := 120) C hT f1_X8_21 g999 dX8_show_120 ?_
    refine V_iconst (pc := 123) C (v := 1) dX8_show_123 rfl ?_
    refine V_iadd (pc := 124) C dX8_show_124 ?_
    refine V_putI (pc := 125) C hT tb1_ok f1_X8_21 (by unfold lc; decide) g999 (Or.inl rfl) (Or.inl rfl) dX8_show_125 (V_nx fun S7 e9 => ?_)
    replace h := h S7 e9; clear e9
    refine V_aload_n (pc := 128) C dX8_show_128 rfl 0 rfl ?_
    refine V_getI (pc := 129) C hT f1_X8_21 g999 dX8_show_129 ?_
    refine V_iconst (pc := 132) C (v := 1) dX8_show_132 rfl ?_
    refine V_isub (pc := 133) C dX8_show_133 ?_
    exact V_iret (pc := 134) C hr rfl h dX8_show_134
  · refine V_iconst (pc := 86) C (v := 0) dX8_show_86 rfl ?_
    exact V_iret (pc := 87) C hr rfl h dX8_show_87
def w_X8_show_75  (Q : Nat → Int32 → Sg → Prop) (x1 : Int32) (x2 : Int32) (x3 : Int32) (S : Sg) : Prop := w_X8_show_80  Q x1 x2 x3 3 S
theorem k_X8_show_75 (hT : xT X = tb1) (hl : l.stackTraces = false) (C : Cn X k0 p l R s m meth c cX8_show RX8 6 3 52) (hr : meth.sig.returnType = (some .int)) (hnm : meth.name = yX8_show.name) (htab : ∀ x ∈ c.exceptionTable.toList, False)  {x1 : Int32} {x2 : Int32} {x3 : Int32} {S : Sg} (h : w_X8_show_75  Qa x1 x2 x3 S) : V X p l e R s m args below meth c 6 (QM X below args s S0 ad0 rvI Qa) S0 ad0 S 75 [(0, Value.ref (enc 12 0)), (1, Value.int x1), (2, Value.int x2), (3, Value.int x3)] [Value.ref (enc 12 0)] := by
  refine V_iconst (pc := 75) C (v := 3) dX8_show_75 rfl ?_
  refine V_goto (pc := 76) (tgt := 80) C dX8_show_76 (by decide) ?_
  refine V_sub [0, 1, 2, 3] rfl ?_
  exact k_X8_show_80 hT hl C hr hnm htab  h
def w_X8_show_21  (Q : Nat → Int32 → Sg → Prop) (x1 : Int32) (x2 : Int32) (x3 : Int32) (y0 : Int32) (S : Sg) : Prop := (w_X8_isIn x3 ((S.1 300 0) + 1) 100000 S (fun k10 v9 S8 => (k10 = 0 → ((y0 = 0 → w_X8_show_80  Q x1 x2 x3 1 S8) ∧ (¬ y0 = 0 → ((v9 = 0 → w_X8_show_80  Q x1 x2 x3 2 S8) ∧ (¬ v9 = 0 → (((S8.1 321 0) = 30 → w_X8_show_75  Q x1 x2 x3 S8) ∧ (¬ (S8.1 321 0) = 30 → (w_X8_reason x1 x2 x3 S8 (fun k13 v12 S11 => (k13 = 0 → ((v12 ≤ 0 → w_X8_show_80  Q x1 x2 x3 0 S11) ∧ (¬ v12 ≤ 0 → w_X8_show_75  Q x1 x2 x3 S11))) ∧ (¬ k13 = 0 → Q k13 0 S11)))))))))) ∧ (¬ k10 = 0 → Q k10 0 S8)))
theorem k_X8_show_21 (hT : xT X = tb1) (hl : l.stackTraces = false) (C : Cn X k0 p l R s m meth c cX8_show RX8 6 3 52) (hr : meth.sig.returnType = (some .int)) (hnm : meth.name = yX8_show.name) (htab : ∀ x ∈ c.exceptionTable.toList, False)  {x1 : Int32} {x2 : Int32} {x3 : Int32} {y0 : Int32} {S : Sg} (h : w_X8_show_21  Qa x1 x2 x3 y0 S) : V X p l e R s m args below meth c 6 (QM X below args s S0 ad0 rvI Qa) S0 ad0 S 21 [(0, Value.ref (enc 12 0)), (1, Value.int x1), (2, Value.int x2), (3, Value.int x3)] [Value.int y0] := by
  refine V_istore (pc := 21) C dX8_show_21 (by decide) rfl ?_
  refine V_iload_n (pc := 23) C dX8_show_23 rfl 4 rfl ?_
  refine V_aload_n (pc := 24) C dX8_show_24 rfl 1 rfl ?_
  refine V_getI (pc := 25) C hT f1_X8_0 g978 dX8_show_25 ?_
  refine V_iconst (pc := 28) C (v := 1) dX8_show_28 rfl ?_
  refine V_iadd (pc := 29) C dX8_show_29 ?_
  refine V_ldc (pc := 30) C g1132 dX8_show_30 ?_
  refine V_callS (pc := 32) C (ct_X8_isIn hT hl h) g1117 g1118 g1119 g64 ⟨by decide, by decide, pl_X8_isIn⟩ ⟨by decide, by decide⟩ (rest := []) rfl (le8 rfl) dX8_show_32 (fun v9 S8 h => ?_) (fun k9 S9 hk h => VX_out C htab hk (h.2 (by omega)))
  replace h := h.1 rfl
  refine V_st (st' := [Value.int v9]) rfl ?_
  refine V_istore (pc := 35) C dX8_show_35 (by decide) rfl ?_
  refine V_aload_n (pc := 37) C dX8_show_37 rfl 2 rfl ?_
  refine V_iload (pc := 38) C dX8_show_38 1 rfl ?_
  refine V_if_ne (pc := 40) (tgt := 47) C dX8_show_40 (by decide) h (fun h => ?_) (fun h => ?_)
  · refine V_iload (pc := 47) C dX8_show_47 0 rfl ?_
    refine V_if_ne (pc := 49) (tgt := 56) C dX8_show_49 (by decide) h (fun h => ?_) (fun h => ?_)
    · refine V_aload_n (pc := 56) C dX8_show_56 rfl 2 rfl ?_
      refine V_getI (pc := 57) C hT f1_X8_21 g999 dX8_show_57 ?_
      refine V_bipush (pc := 60) C (v := 30) dX8_show_60 rfl ?_
      refine V_icmp_eq (pc := 62) (tgt := 75) C dX8_show_62 (by decide) h (fun h => ?_) (fun h => ?_)
      · refine V_sub [2, 3, 4, 5] rfl ?_
        exact k_X8_show_75 hT hl C hr hnm htab  h
      · refine V_aload_n (pc := 65) C dX8_show_65 rfl 2 rfl ?_
        refine V_iload_n (pc := 66) C dX8_show_66 rfl 3 rfl ?_
        refine V_iload_n (pc := 67) C dX8_show_67 rfl 4 rfl ?_
        refine V_iload_n (pc := 68) C dX8_show_68 rfl 5 rfl ?_
        refine V_callV (pc := 69) C (ct_X8_reason hT hl h) g1158 g1160 g35 g1161 g64 ⟨by decide, by decide, pl_X8_reason⟩ (enc_ne63 (by decide)) (ct_obj hT rfl (by decide)) rfl ⟨by decide, by decide⟩ (rest := [Value.ref (enc 12 0)]) rfl (le8 rfl) dX8_show_69 (fun v12 S11 h => ?_) (fun k9 S9 hk h => VX_out C htab hk (h.2 (by omega)))
        replace h := h.1 rfl
        refine V_st (st' := [Value.int v12, Value.ref (enc 12 0)]) rfl ?_
        refine V_if_le (pc := 72) (tgt := 79) C dX8_show_72 (by decide) h (fun h => ?_) (fun h => ?_)
        · refine V_iconst (pc := 79) C (v := 0) dX8_show_79 rfl ?_
          refine V_sub [2, 3, 4, 5] rfl ?_
          exact k_X8_show_80 hT hl C hr hnm htab  h
        · refine V_sub [2, 3, 4, 5] rfl ?_
          exact k_X8_show_75 hT hl C hr hnm htab  h
    · refine V_iconst (pc := 52) C (v := 2) dX8_show_52 rfl ?_
      refine V_goto (pc := 53) (tgt := 80) C dX8_show_53 (by decide) ?_
      refine V_sub [2, 3, 4, 5] rfl ?_
      exact k_X8_show_80 hT hl C hr hnm htab  h
  · refine V_iconst (pc := 43) C (v := 1) dX8_show_43 rfl ?_
    refine V_goto (pc := 44) (tgt := 80) C dX8_show_44 (by decide) ?_
    refine V_sub [2, 3, 4, 5] rfl ?_
    exact k_X8_show_80 hT hl C hr hnm htab  h
def w_X8_show_20  (Q : Nat → Int32 → Sg → Prop) (x1 : Int32) (x2 : Int32) (x3 : Int32) (S : Sg) : Prop := w_X8_show_21  Q x1 x2 x3 0 S
theorem k_X8_show_20 (hT : xT X = tb1) (hl : l.stackTraces = false) (C : Cn X k0 p l R s m meth c cX8_show RX8 6 3 52) (hr : meth.sig.returnType = (some .int)) (hnm : meth.name = yX8_show.name) (htab : ∀ x ∈ c.exceptionTable.toList, False)  {x1 : Int32} {x2 : Int32} {x3 : Int32} {S : Sg} (h : w_X8_show_20  Qa x1 x2 x3 S) : V X p l e R s m args below meth c 6 (QM X below args s S0 ad0 rvI Qa) S0 ad0 S 20 [(0, Value.ref (enc 12 0)), (1, Value.int x1), (2, Value.int x2), (3, Value.int x3)] [] := by
  refine V_iconst (pc := 20) C (v := 0) dX8_show_20 rfl ?_
  refine V_sub [0, 1, 2, 3] rfl ?_
  exact k_X8_show_21 hT hl C hr hnm htab  h
def w_X8_show (a1 : Int32) (a2 : Int32) (a3 : Int32) (S : Sg) (Q : Nat → Int32 → Sg → Prop) : Prop := (w_X8_isFilm a1 S (fun k16 v15 S14 => (k16 = 0 → ((v15 = 0 → w_X8_show_20  Q a1 a2 a3 S14) ∧ (¬ v15 = 0 → (w_X8_isHall a2 S14 (fun k19 v18 S17 => (k19 = 0 → ((v18 = 0 → w_X8_show_20  Q a1 a2 a3 S17) ∧ (¬ v18 = 0 → w_X8_show_21  Q a1 a2 a3 1 S17))) ∧ (¬ k19 = 0 → Q k19 0 S17)))))) ∧ (¬ k16 = 0 → Q k16 0 S14)))
theorem ct_X8_show (hT : xT X = tb1) (hl : l.stackTraces = false) {a1 : Int32} {a2 : Int32} {a3 : Int32} {S : Sg} (h : w_X8_show a1 a2 a3 S Qa) : CT X k0 l yX8_show cX8_show 6 (some .int) 3 52 [Value.ref (enc 12 0), Value.int a1, Value.int a2, Value.int a3] rvI S Qa :=
  CT_ofV (own := RX8) (by decide +kernel) (le8 rfl) rfl hl fun p e R s m args below meth c ad0 C hr hnm htab => by
    refine V_aload_n (pc := 0) C dX8_show_0 rfl 0 rfl ?_
    refine V_iload_n (pc := 1) C dX8_show_1 rfl 1 rfl ?_
    refine V_callV (pc := 2) C (ct_X8_isFilm hT hl h) g1141 g1143 g34 g1144 g64 ⟨by decide, by decide, pl_X8_isFilm⟩ (enc_ne63 (by decide)) (ct_obj hT rfl (by decide)) rfl ⟨by decide, by decide⟩ (rest := []) rfl (le8 rfl) dX8_show_2 (fun v15 S14 h => ?_) (fun k9 S9 hk h => VX_out C htab hk (h.2 (by omega)))
    replace h := h.1 rfl
    refine V_st (st' := [Value.int v15]) rfl ?_
    refine V_if_eq (pc := 5) (tgt := 20) C dX8_show_5 (by decide) h (fun h => ?_) (fun h => ?_)
    · refine V_sub [0, 1, 2, 3] rfl ?_
      exact k_X8_show_20 hT hl C hr hnm htab  h
    · refine V_aload_n (pc := 8) C dX8_show_8 rfl 0 rfl ?_
      refine V_iload_n (pc := 9) C dX8_show_9 rfl 2 rfl ?_
      refine V_callV (pc := 10) C (ct_X8_isHall hT hl h) g1128 g1130 g33 g1131 g64 ⟨by decide, by decide, pl_X8_isHall⟩ (enc_ne63 (by decide)) (ct_obj hT rfl (by decide)) rfl ⟨by decide, by decide⟩ (rest := []) rfl (le8 rfl) dX8_show_10 (fun v18 S17 h => ?_) (fun k9 S9 hk h => VX_out C htab hk (h.2 (by omega)))
      replace h := h.1 rfl
      refine V_st (st' := [Value.int v18]) rfl ?_
      refine V_if_eq (pc := 13) (tgt := 20) C dX8_show_13 (by decide) h (fun h => ?_) (fun h => ?_)
      · refine V_sub [0, 1, 2, 3] rfl ?_
        exact k_X8_show_20 hT hl C hr hnm htab  h
      · refine V_iconst (pc := 16) C (v := 1) dX8_show_16 rfl ?_
        refine V_goto (pc := 17) (tgt := 21) C dX8_show_17 (by decide) ?_
        refine V_sub [0, 1, 2, 3] rfl ?_
        exact k_X8_show_21 hT hl C hr hnm htab  h
theorem pl_X8_cancel : (parseMethodDescriptor yX8_cancel.desc).map (fun d => d.parameters.length) = some 1 := by decide +kernel
def w_X8_cancel_137  (Q : Nat → Int32 → Sg → Prop) : Nat → Int32 → Int32 → Int32 → Sg → Prop
  | 0, _, _, _, _ => False
  | n + 1, x1, x2, x3, S => ((((48 * x1) + 48) ≤ x3 → (vp_in x1 30 ∧ (∀ S1, S1 = su S 128 (nt x1) 0 → (vp_in x1 30 ∧ (∀ S2, S2 = su S1 125 (nt x1) 4 → Q 0 x2 S2))))) ∧ (¬ ((48 * x1) + 48) ≤ x3 → (vp_in x3 1440 ∧ (∀ S3, S3 = su S 126 (nt x3) (-1) → (vp_in x3 1440 ∧ (∀ S4, S4 = su S3 127 (nt x3) (-1) → w_X8_cancel_137  Q n x1 x2 (x3 + 1) S4))))))
theorem k_X8_cancel_137 (hT : xT X = tb1) (hl : l.stackTraces = false) (C : Cn X k0 p l R s m meth c cX8_cancel RX8 4 3 43) (hr : meth.sig.returnType = (some .int)) (hnm : meth.name = yX8_cancel.name) (htab : ∀ x ∈ c.exceptionTable.toList, False)  : ∀ n {x1 : Int32} {x2 : Int32} {x3 : Int32} {S : Sg}, w_X8_cancel_137  Qa n x1 x2 x3 S → V X p l e R s m args below meth c 4 (QM X below args s S0 ad0 rvI Qa) S0 ad0 S 137 [(0, Value.ref (enc 12 0)), (1, Value.int x1), (2, Value.int x2), (3, Value.int x3)] [] := by
  intro n
  induction n with
  | zero => intro x1 x2 x3 S h; exact h.elim
  | succ n ih =>
    intro x1 x2 x3 S h
    refine V_iload_n (pc := 137) C dX8_cancel_137 rfl 3 rfl ?_
    refine V_bipush (pc := 138) C (v := 48) dX8_cancel_138 rfl ?_
    refine V_iload_n (pc := 140) C dX8_cancel_140 rfl 1 rfl ?_
    refine V_imul (pc := 141) C dX8_cancel_141 ?_
    refine V_bipush (pc := 142) C (v := 48) dX8_cancel_142 rfl ?_
    refine V_iadd (pc := 144) C dX8_cancel_144 ?_
    refine V_icmp_ge (pc := 145) (tgt := 168) C dX8_cancel_145 (by decide) h (fun h => ?_) (fun h => ?_)
    · refine V_aload_n (pc := 168) C dX8_cancel_168 rfl 0 rfl ?_
      refine V_getF (pc := 169) C hT f1_X8_28 g1006 dX8_cancel_169 ?_
      refine V_iload_n (pc := 172) C dX8_cancel_172 rfl 1 rfl ?_
      refine V_iconst (pc := 173) C (v := 0) dX8_cancel_173 rfl ?_
      refine V_mst (pc := 174) C hT tb1_arr (n := 30) (c9 := 128) (by decide) rfl rfl rfl h dX8_cancel_174 (fun h => V_nx fun S1 e9 => ?_)
      replace h := h S1 e9; clear e9
      refine V_aload_n (pc := 175) C dX8_cancel_175 rfl 0 rfl ?_
      refine V_getF (pc := 176) C hT f1_X8_25 g1003 dX8_cancel_176 ?_
      refine V_iload_n (pc := 179) C dX8_cancel_179 rfl 1 rfl ?_
      refine V_iconst (pc := 180) C (v := 4) dX8_cancel_180 rfl ?_
      refine V_mst (pc := 181) C hT tb1_arr (n := 30) (c9 := 125) (by decide) rfl rfl rfl h dX8_cancel_181 (fun h => V_nx fun S2 e9 => ?_)
      replace h := h S2 e9; clear e9
      refine V_iload_n (pc := 182) C dX8_cancel_182 rfl 2 rfl ?_
      exact V_iret (pc := 183) C hr rfl h dX8_cancel_183
    · refine V_aload_n (pc := 148) C dX8_cancel_148 rfl 0 rfl ?_
      refine V_getF (pc := 149) C hT f1_X8_26 g1004 dX8_cancel_149 ?_
      refine V_iload_n (pc := 152) C dX8_cancel_152 rfl 3 rfl ?_
      refine V_iconst (pc := 153) C (v := (-1)) dX8_cancel_153 rfl ?_
      refine V_mst (pc := 154) C hT tb1_arr (n := 1440) (c9 := 126) (by decide) rfl rfl rfl h dX8_cancel_154 (fun h => V_nx fun S3 e9 => ?_)
      replace h := h S3 e9; clear e9
      refine V_aload_n (pc := 155) C dX8_cancel_155 rfl 0 rfl ?_
      refine V_getF (pc := 156) C hT f1_X8_27 g1005 dX8_cancel_156 ?_
      refine V_iload_n (pc := 159) C dX8_cancel_159 rfl 3 rfl ?_
      refine V_iconst (pc := 160) C (v := (-1)) dX8_cancel_160 rfl ?_
      refine V_mst (pc := 161) C hT tb1_arr (n := 1440) (c9 := 127) (by decide) rfl rfl rfl h dX8_cancel_161 (fun h => V_nx fun S4 e9 => ?_)
      replace h := h S4 e9; clear e9
      refine V_iinc (pc := 162) C (a := 3) (v := x3 + 1) dX8_cancel_162 rfl rfl (by decide) rfl ?_
      refine V_goto (pc := 165) (tgt := 137) C dX8_cancel_165 (by decide) ?_
      refine V_sub [1, 2, 3, 0] rfl ?_
      exact ih h
def w_X8_cancel_125 (k88 : Int32 → Int32 → Int32 → Sg → Prop) (Q : Nat → Int32 → Sg → Prop) (x1 : Int32) (x2 : Int32) (x3 : Int32) (y0 : Int32) (y1 : Int32) (S : Sg) : Prop := (vp_in y1 100 ∧ (y0 = 0 ∨ y0 = 1) ∧ (∀ S5, S5 = su S 135 (nt y1) y0 → k88 x1 x2 (x3 + 1) S5))
theorem k_X8_cancel_125 (hT : xT X = tb1) (hl : l.stackTraces = false) (C : Cn X k0 p l R s m meth c cX8_cancel RX8 4 3 43) (hr : meth.sig.returnType = (some .int)) (hnm : meth.name = yX8_cancel.name) (htab : ∀ x ∈ c.exceptionTable.toList, False) {k88 : Int32 → Int32 → Int32 → Sg → Prop} (hk88 : ∀ {x1 : Int32} {x2 : Int32} {x3 : Int32} {S : Sg}, k88 x1 x2 x3 S → V X p l e R s m args below meth c 4 (QM X below args s S0 ad0 rvI Qa) S0 ad0 S 88 [(0, Value.ref (enc 12 0)), (1, Value.int x1), (2, Value.int x2), (3, Value.int x3)] []) {x1 : Int32} {x2 : Int32} {x3 : Int32} {y0 : Int32} {y1 : Int32} {S : Sg} (h : w_X8_cancel_125 k88 Qa x1 x2 x3 y0 y1 S) : V X p l e R s m args below meth c 4 (QM X below args s S0 ad0 rvI Qa) S0 ad0 S 125 [(0, Value.ref (enc 12 0)), (1, Value.int x1), (2, Value.int x2), (3, Value.int x3)] [Value.int y0, Value.int y1, Value.ref (enc 13 35)] := by
  refine V_mstZ (pc := 125) C hT tb1_arr (n := 100) (c9 := 135) (by decide) rfl rfl rfl h dX8_cancel_125 (fun h => V_nx fun S5 e9 => ?_)
  replace h := h S5 e9; clear e9
  refine V_iinc (pc := 126) C (a := 3) (v := x3 + 1) dX8_cancel_126 rfl rfl (by decide) rfl ?_
  refine V_goto (pc := 129) (tgt := 88) C dX8_cancel_129 (by decide) ?_
  refine V_sub [1, 2, 3, 0] rfl ?_
  exact hk88 h
def w_X8_cancel_120 (k88 : Int32 → Int32 → Int32 → Sg → Prop) (Q : Nat → Int32 → Sg → Prop) (x1 : Int32) (x2 : Int32) (x3 : Int32) (y0 : Int32) (S : Sg) : Prop := w_X8_cancel_125 k88 Q x1 x2 x3 1 y0 S
theorem k_X8_cancel_120 (hT : xT X = tb1) (hl : l.stackTraces = false) (C : Cn X k0 p l R s m meth c cX8_cancel RX8 4 3 43) (hr : meth.sig.returnType = (some .int)) (hnm : meth.name = yX8_cancel.name) (htab : ∀ x ∈ c.exceptionTable.toList, False) {k88 : Int32 → Int32 → Int32 → Sg → Prop} (hk88 : ∀ {x1 : Int32} {x2 : Int32} {x3 : Int32} {S : Sg}, k88 x1 x2 x3 S → V X p l e R s m args below meth c 4 (QM X below args s S0 ad0 rvI Qa) S0 ad0 S 88 [(0, Value.ref (enc 12 0)), (1, Value.int x1), (2, Value.int x2), (3, Value.int x3)] []) {x1 : Int32} {x2 : Int32} {x3 : Int32} {y0 : Int32} {S : Sg} (h : w_X8_cancel_120 k88 Qa x1 x2 x3 y0 S) : V X p l e R s m args below meth c 4 (QM X below args s S0 ad0 rvI Qa) S0 ad0 S 120 [(0, Value.ref (enc 12 0)), (1, Value.int x1), (2, Value.int x2), (3, Value.int x3)] [Value.int y0, Value.ref (enc 13 35)] := by
  refine V_iconst (pc := 120) C (v := 1) dX8_cancel_120 rfl ?_
  refine V_goto (pc := 121) (tgt := 125) C dX8_cancel_121 (by decide) ?_
  refine V_sub [0, 1, 2, 3] rfl ?_
  exact k_X8_cancel_125 hT hl C hr hnm htab (fun h => hk88 h) h
def w_X8_cancel_88  (Q : Nat → Int32 → Sg → Prop) : Nat → Int32 → Int32 → Int32 → Sg → Prop
  | 0, _, _, _, _ => False
  | n + 1, x1, x2, x3, S => (((S.1 331 0) ≤ x3 → (∀ v6, v6 = 48 * x1 → ∃ n9, w_X8_cancel_137  Q n9 x1 x2 v6 S)) ∧ (¬ (S.1 331 0) ≤ x3 → (vp_in x3 100 ∧ (((S.1 135 (nt x3)) = 0 → (vp_in x3 100 ∧ (((S.1 132 (nt x3)) = x1 → w_X8_cancel_120 (fun x1 x2 x3 S => w_X8_cancel_88  Q n x1 x2 x3 S) Q x1 x2 x3 x3 S) ∧ (¬ (S.1 132 (nt x3)) = x1 → w_X8_cancel_125 (fun x1 x2 x3 S => w_X8_cancel_88  Q n x1 x2 x3 S) Q x1 x2 x3 0 x3 S)))) ∧ (¬ (S.1 135 (nt x3)) = 0 → w_X8_cancel_120 (fun x1 x2 x3 S => w_X8_cancel_88  Q n x1 x2 x3 S) Q x1 x2 x3 x3 S)))))
theorem k_X8_cancel_88 (hT : xT X = tb1) (hl : l.stackTraces = false) (C : Cn X k0 p l R s m meth c cX8_cancel RX8 4 3 43) (hr : meth.sig.returnType = (some .int)) (hnm : meth.name = yX8_cancel.name) (htab : ∀ x ∈ c.exceptionTable.toList, False)  : ∀ n {x1 : Int32} {x2 : Int32} {x3 : Int32} {S : Sg}, w_X8_cancel_88  Qa n x1 x2 x3 S → V X p l e R s m args below meth c 4 (QM X below args s S0 ad0 rvI Qa) S0 ad0 S 88 [(0, Value.ref (enc 12 0)), (1, Value.int x1), (2, Value.int x2), (3, Value.int x3)] [] := by
  intro n
  induction n with
  | zero => intro x1 x2 x3 S h; exact h.elim
  | succ n ih =>
    intro x1 x2 x3 S h
    refine V_iload_n (pc := 88) C dX8_cancel_88 rfl 3 rfl ?_
    refine V_aload_n (pc := 89) C dX8_cancel_89 rfl 0 rfl ?_
    refine V_getI (pc := 90) C hT f1_X8_31 g1009 dX8_cancel_90 ?_
    refine V_icmp_ge (pc := 93) (tgt := 132) C dX8_cancel_93 (by decide) h (fun h => ?_) (fun h => ?_)
    · refine V_bipush (pc := 132) C (v := 48) dX8_cancel_132 rfl ?_
      refine V_iload_n (pc := 134) C dX8_cancel_134 rfl 1 rfl ?_
      refine V_imul (pc := 135) C dX8_cancel_135 ?_
      refine V_nI fun v6 e9 => ?_
      replace h := h v6 e9; clear e9
      refine V_istore_n (pc := 136) C dX8_cancel_136 rfl (by decide) rfl ?_
      refine V_sub [1, 2, 3, 0] rfl ?_
      obtain ⟨n9, h⟩ := h
      exact k_X8_cancel_137 hT hl C hr hnm htab  n9 h
    · refine V_aload_n (pc := 96) C dX8_cancel_96 rfl 0 rfl ?_
      refine V_getF (pc := 97) C hT f1_X8_35 g1013 dX8_cancel_97 ?_
      refine V_iload_n (pc := 100) C dX8_cancel_100 rfl 3 rfl ?_
      refine V_aload_n (pc := 101) C dX8_cancel_101 rfl 0 rfl ?_
      refine V_getF (pc := 102) C hT f1_X8_35 g1013 dX8_cancel_102 ?_
      refine V_iload_n (pc := 105) C dX8_cancel_105 rfl 3 rfl ?_
      refine V_mldZ (pc := 106) C hT tb1_arr (n := 100) (c9 := 135) rfl rfl rfl h dX8_cancel_106 (fun h => ?_)
      refine V_if_ne (pc := 107) (tgt := 120) C dX8_cancel_107 (by decide) h (fun h => ?_) (fun h => ?_)
      · refine V_sub [0, 1, 2, 3] rfl ?_
        exact k_X8_cancel_120 hT hl C hr hnm htab (fun h => ih h) h
      · refine V_aload_n (pc := 110) C dX8_cancel_110 rfl 0 rfl ?_
        refine V_getF (pc := 111) C hT f1_X8_32 g1010 dX8_cancel_111 ?_
        refine V_iload_n (pc := 114) C dX8_cancel_114 rfl 3 rfl ?_
        refine V_mld (pc := 115) C hT tb1_arr (n := 100) (c9 := 132) rfl rfl rfl h dX8_cancel_115 (fun h => ?_)
        refine V_iload_n (pc := 116) C dX8_cancel_116 rfl 1 rfl ?_
        refine V_icmp_ne (pc := 117) (tgt := 124) C dX8_cancel_117 (by decide) h (fun h => ?_) (fun h => ?_)
        · refine V_iconst (pc := 124) C (v := 0) dX8_cancel_124 rfl ?_
          refine V_sub [0, 1, 2, 3] rfl ?_
          exact k_X8_cancel_125 hT hl C hr hnm htab (fun h => ih h) h
        · refine V_sub [0, 1, 2, 3] rfl ?_
          exact k_X8_cancel_120 hT hl C hr hnm htab (fun h => ih h) h
def w_X8_cancel_80 (k39 : Int32 → Int32 → Int32 → Sg → Prop) (Q : Nat → Int32 → Sg → Prop) (x1 : Int32) (x2 : Int32) (x3 : Int32) (S : Sg) : Prop := k39 x1 x2 (x3 + 1) S
theorem k_X8_cancel_80 (hT : xT X = tb1) (hl : l.stackTraces = false) (C : Cn X k0 p l R s m meth c cX8_cancel RX8 4 3 43) (hr : meth.sig.returnType = (some .int)) (hnm : meth.name = yX8_cancel.name) (htab : ∀ x ∈ c.exceptionTable.toList, False) {k39 : Int32 → Int32 → Int32 → Sg → Prop} (hk39 : ∀ {x1 : Int32} {x2 : Int32} {x3 : Int32} {S : Sg}, k39 x1 x2 x3 S → V X p l e R s m args below meth c 4 (QM X below args s S0 ad0 rvI Qa) S0 ad0 S 39 [(0, Value.ref (enc 12 0)), (1, Value.int x1), (2, Value.int x2), (3, Value.int x3)] []) {x1 : Int32} {x2 : Int32} {x3 : Int32} {S : Sg} (h : w_X8_cancel_80 k39 Qa x1 x2 x3 S) : V X p l e R s m args below meth c 4 (QM X below args s S0 ad0 rvI Qa) S0 ad0 S 80 [(0, Value.ref (enc 12 0)), (1, Value.int x1), (2, Value.int x2), (3, Value.int x3)] [] := by
  refine V_iinc (pc := 80) C (a := 3) (v := x3 + 1) dX8_cancel_80 rfl rfl (by decide) rfl ?_
  refine V_goto (pc := 83) (tgt := 39) C dX8_cancel_83 (by decide) ?_
  refine V_sub [1, 2, 3, 0] rfl ?_
  exact hk39 h
def w_X8_cancel_39  (Q : Nat → Int32 → Sg → Prop) : Nat → Int32 → Int32 → Int32 → Sg → Prop
  | 0, _, _, _, _ => False
  | n + 1, x1, x2, x3, S => (((S.1 336 0) ≤ x3 → ∃ n9, w_X8_cancel_88  Q n9 x1 x2 0 S) ∧ (¬ (S.1 336 0) ≤ x3 → (vp_in x3 400 ∧ (((S.1 137 (nt x3)) = x1 → (vp_in x3 400 ∧ (∀ v7, v7 = x2 + (S.1 140 (nt x3)) → (vp_in x3 400 ∧ (∀ S8, S8 = su S 140 (nt x3) 0 → (vp_in x3 400 ∧ ((1 : Int32) = 0 ∨ (1 : Int32) = 1) ∧ (∀ S9, S9 = su S8 141 (nt x3) 1 → w_X8_cancel_80 (fun x1 x2 x3 S => w_X8_cancel_39  Q n x1 x2 x3 S) Q x1 v7 x3 S9))))))) ∧ (¬ (S.1 137 (nt x3)) = x1 → w_X8_cancel_80 (fun x1 x2 x3 S => w_X8_cancel_39  Q n x1 x2 x3 S) Q x1 x2 x3 S)))))
theorem k_X8_cancel_39 (hT : xT X = tb1) (hl : l.stackTraces = false) (C : Cn X k0 p l R s m meth c cX8_cancel RX8 4 3 43) (hr : meth.sig.returnType = (some .int)) (hnm : meth.name = yX8_cancel.name) (htab : ∀ x ∈ c.exceptionTable.toList, False)  : ∀ n {x1 : Int32} {x2 : Int32} {x3 : Int32} {S : Sg}, w_X8_cancel_39  Qa n x1 x2 x3 S → V X p l e R s m args below meth c 4 (QM X below args s S0 ad0 rvI Qa) S0 ad0 S 39 [(0, Value.ref (enc 12 0)), (1, Value.int x1), (2, Value.int x2), (3, Value.int x3)] [] := by
  intro n
  induction n with
  | zero => intro x1 x2 x3 S h; exact h.elim
  | succ n ih =>
    intro x1 x2 x3 S h
    refine V_iload_n (pc := 39) C dX8_cancel_39 rfl 3 rfl ?_
    refine V_aload_n (pc := 40) C dX8_cancel_40 rfl 0 rfl ?_
    refine V_getI (pc := 41) C hT f1_X8_36 g1014 dX8_cancel_41 ?_
    refine V_icmp_ge (pc := 44) (tgt := 86) C dX8_cancel_44 (by decide) h (fun h => ?_) (fun h => ?_)
    · refine V_iconst (pc := 86) C (v := 0) dX8_cancel_86 rfl ?_
      refine V_istore_n (pc := 87) C dX8_cancel_87 rfl (by decide) rfl ?_
      refine V_sub [1, 2, 3, 0] rfl ?_
      obtain ⟨n9, h⟩ := h
      exact k_X8_cancel_88 hT hl C hr hnm htab  n9 h
    · refine V_aload_n (pc := 47) C dX8_cancel_47 rfl 0 rfl ?_
      refine V_getF (pc := 48) C hT f1_X8_37 g1015 dX8_cancel_48 ?_
      refine V_iload_n (pc := 51) C dX8_cancel_51 rfl 3 rfl ?_
      refine V_mld (pc := 52) C hT tb1_arr (n := 400) (c9 := 137) rfl rfl rfl h dX8_cancel_52 (fun h => ?_)
      refine V_iload_n (pc := 53) C dX8_cancel_53 rfl 1 rfl ?_
      refine V_icmp_ne (pc := 54) (tgt := 80) C dX8_cancel_54 (by decide) h (fun h => ?_) (fun h => ?_)
      · refine V_sub [0, 1, 2, 3] rfl ?_
        exact k_X8_cancel_80 hT hl C hr hnm htab (fun h => ih h) h
      · refine V_iload_n (pc := 57) C dX8_cancel_57 rfl 2 rfl ?_
        refine V_aload_n (pc := 58) C dX8_cancel_58 rfl 0 rfl ?_
        refine V_getF (pc := 59) C hT f1_X8_40 g1018 dX8_cancel_59 ?_
        refine V_iload_n (pc := 62) C dX8_cancel_62 rfl 3 rfl ?_
        refine V_mld (pc := 63) C hT tb1_arr (n := 400) (c9 := 140) rfl rfl rfl h dX8_cancel_63 (fun h => ?_)
        refine V_iadd (pc := 64) C dX8_cancel_64 ?_
        refine V_nI fun v7 e9 => ?_
        replace h := h v7 e9; clear e9
        refine V_istore_n (pc := 65) C dX8_cancel_65 rfl (by decide) rfl ?_
        refine V_aload_n (pc := 66) C dX8_cancel_66 rfl 1 rfl ?_
        refine V_getF (pc := 67) C hT f1_X8_40 g1018 dX8_cancel_67 ?_
        refine V_iload_n (pc := 70) C dX8_cancel_70 rfl 3 rfl ?_
        refine V_iconst (pc := 71) C (v := 0) dX8_cancel_71 rfl ?_
        refine V_mst (pc := 72) C hT tb1_arr (n := 400) (c9 := 140) (by decide) rfl rfl rfl h dX8_cancel_72 (fun h => V_nx fun S8 e9 => ?_)
        replace h := h S8 e9; clear e9
        refine V_aload_n (pc := 73) C dX8_cancel_73 rfl 1 rfl ?_
        refine V_getF (pc := 74) C hT f1_X8_41 g1019 dX8_cancel_74 ?_
        refine V_iload_n (pc := 77) C dX8_cancel_77 rfl 3 rfl ?_
        refine V_iconst (pc := 78) C (v := 1) dX8_cancel_78 rfl ?_
        refine V_mstZ (pc := 79) C hT tb1_arr (n := 400) (c9 := 141) (by decide) rfl rfl rfl h dX8_cancel_79 (fun h => V_nx fun S9 e9 => ?_)
        replace h := h S9 e9; clear e9
        refine V_sub [1, 2, 0, 3] rfl ?_
        exact k_X8_cancel_80 hT hl C hr hnm htab (fun h => ih h) h
def w_X8_cancel_27  (Q : Nat → Int32 → Sg → Prop) (x1 : Int32) (y0 : Int32) (S : Sg) : Prop := (w_X8_fails y0 S (fun k12 v11 S10 => (k12 = 0 → ((v11 = 0 → ∃ n9, w_X8_cancel_39  Q n9 x1 0 0 S10) ∧ (¬ v11 = 0 → Q 0 0 S10))) ∧ (¬ k12 = 0 → Q k12 0 S10)))
theorem k_X8_cancel_27 (hT : xT X = tb1) (hl : l.stackTraces = false) (C : Cn X k0 p l R s m meth c cX8_cancel RX8 4 3 43) (hr : meth.sig.returnType = (some .int)) (hnm : meth.name = yX8_cancel.name) (htab : ∀ x ∈ c.exceptionTable.toList, False)  {x1 : Int32} {y0 : Int32} {S : Sg} (h : w_X8_cancel_27  Qa x1 y0 S) : V X p l e R s m args below meth c 4 (QM X below args s S0 ad0 rvI Qa) S0 ad0 S 27 [(0, Value.ref (enc 12 0)), (1, Value.int x1)] [Value.int y0, Value.ref (enc 12 0)] := by
  refine V_callV (pc := 27) C (ct_X8_fails hT hl h) g1120 g1122 g32 g1123 g64 ⟨by decide, by decide, pl_X8_fails⟩ (enc_ne63 (by decide)) (ct_obj hT rfl (by decide)) rfl ⟨by decide, by decide⟩ (rest := []) rfl (le8 rfl) dX8_cancel_27 (fun v11 S10 h => ?_) (fun k9 S9 hk h => VX_out C htab hk (h.2 (by omega)))
  replace h := h.1 rfl
  refine V_st (st' := [Value.int v11]) rfl ?_
  refine V_if_eq (pc := 30) (tgt := 35) C dX8_cancel_30 (by decide) h (fun h => ?_) (fun h => ?_)
  · refine V_iconst (pc := 35) C (v := 0) dX8_cancel_35 rfl ?_
    refine V_istore_n (pc := 36) C dX8_cancel_36 rfl (by decide) rfl ?_
    refine V_iconst (pc := 37) C (v := 0) dX8_cancel_37 rfl ?_
    refine V_istore_n (pc := 38) C dX8_cancel_38 rfl (by decide) rfl ?_
    refine V_sub [2, 3, 1, 0] rfl ?_
    obtain ⟨n9, h⟩ := h
    exact k_X8_cancel_39 hT hl C hr hnm htab  n9 h
  · refine V_iconst (pc := 33) C (v := 0) dX8_cancel_33 rfl ?_
    exact V_iret (pc := 34) C hr rfl h dX8_cancel_34
def w_X8_cancel (a1 : Int32) (S : Sg) (Q : Nat → Int32 → Sg → Prop) : Prop := (w_X8_isShow a1 S (fun k15 v14 S13 => (k15 = 0 → ((v14 = 0 → w_X8_cancel_27  Q a1 1 S13) ∧ (¬ v14 = 0 → (vp_in a1 30 ∧ (((S13.1 125 (nt a1)) = 0 → w_X8_cancel_27  Q a1 0 S13) ∧ (¬ (S13.1 125 (nt a1)) = 0 → w_X8_cancel_27  Q a1 2 S13)))))) ∧ (¬ k15 = 0 → Q k15 0 S13)))
theorem ct_X8_cancel (hT : xT X = tb1) (hl : l.stackTraces = false) {a1 : Int32} {S : Sg} (h : w_X8_cancel a1 S Qa) : CT X k0 l yX8_cancel cX8_cancel 4 (some .int) 3 43 [Value.ref (enc 12 0), Value.int a1] rvI S Qa :=
  CT_ofV (own := RX8) (by decide +kernel) (le8 rfl) rfl hl fun p e R s m args below meth c ad0 C hr hnm htab => by
    refine V_aload_n (pc := 0) C dX8_cancel_0 rfl 0 rfl ?_
    refine V_aload_n (pc := 1) C dX8_cancel_1 rfl 0 rfl ?_
    refine V_iload_n (pc := 2) C dX8_cancel_2 rfl 1 rfl ?_
    refine V_callV (pc := 3) C (ct_X8_isShow hT hl h) g1174 g1176 g38 g1177 g64 ⟨by decide, by decide, pl_X8_isShow⟩ (enc_ne63 (by decide)) (ct_obj hT rfl (by decide)) rfl ⟨by decide, by decide⟩ (rest := [Value.ref (enc 12 0)]) rfl (le8 rfl) dX8_cancel_3 (fun v14 S13 h => ?_) (fun k9 S9 hk h => VX_out C htab hk (h.2 (by omega)))
    replace h := h.1 rfl
    refine V_st (st' := [Value.int v14, Value.ref (enc 12 0)]) rfl ?_
    refine V_if_ne (pc := 6) (tgt := 13) C dX8_cancel_6 (by decide) h (fun h => ?_) (fun h => ?_)
    · refine V_aload_n (pc := 13) C dX8_cancel_13 rfl 0 rfl ?_
      refine V_getF (pc := 14) C hT f1_X8_25 g1003 dX8_cancel_14 ?_
      refine V_iload_n (pc := 17) C dX8_cancel_17 rfl 1 rfl ?_
      refine V_mld (pc := 18) C hT tb1_arr (n := 30) (c9 := 125) rfl rfl rfl h dX8_cancel_18 (fun h => ?_)
      refine V_if_eq (pc := 19) (tgt := 26) C dX8_cancel_19 (by decide) h (fun h => ?_) (fun h => ?_)
      · refine V_iconst (pc := 26) C (v := 0) dX8_cancel_26 rfl ?_
        refine V_sub [0, 1] rfl ?_
        exact k_X8_cancel_27 hT hl C hr hnm htab  h
      · refine V_iconst (pc := 22) C (v := 2) dX8_cancel_22 rfl ?_
        refine V_goto (pc := 23) (tgt := 27) C dX8_cancel_23 (by decide) ?_
        refine V_sub [0, 1] rfl ?_
        exact k_X8_cancel_27 hT hl C hr hnm htab  h
    · refine V_iconst (pc := 9) C (v := 1) dX8_cancel_9 rfl ?_
      refine V_goto (pc := 10) (tgt := 27) C dX8_cancel_10 (by decide) ?_
      refine V_sub [0, 1] rfl ?_
      exact k_X8_cancel_27 hT hl C hr hnm htab  h
theorem pl_X8_breaks : (parseMethodDescriptor yX8_breaks.desc).map (fun d => d.parameters.length) = some 1 := by decide +kernel
def w_X8_breaks_136 (k79 : Int32 → Int32 → Int32 → Int32 → Int32 → Sg → Prop) (Q : Nat → Int32 → Sg → Prop) (x1 : Int32) (x2 : Int32) (x3 : Int32) (x4 : Int32) (x5 : Int32) (y0 : Int32) (S : Sg) : Prop := (vp_in x5 400 ∧ (vp_in x5 400 ∧ (∀ S1, S1 = su S 140 (nt x5) ((S.1 140 (nt x5)) - y0) → (∀ v2, v2 = x4 + y0 → k79 x1 x2 x3 v2 (x5 + 1) S1))))
theorem k_X8_breaks_136 (hT : xT X = tb1) (hl : l.stackTraces = false) (C : Cn X k0 p l R s m meth c cX8_breaks RX8 7 3 43) (hr : meth.sig.returnType = (some .int)) (hnm : meth.name = yX8_breaks.name) (htab : ∀ x ∈ c.exceptionTable.toList, False) {k79 : Int32 → Int32 → Int32 → Int32 → Int32 → Sg → Prop} (hk79 : ∀ {x1 : Int32} {x2 : Int32} {x3 : Int32} {x4 : Int32} {x5 : Int32} {S : Sg}, k79 x1 x2 x3 x4 x5 S → V X p l e R s m args below meth c 7 (QM X below args s S0 ad0 rvI Qa) S0 ad0 S 79 [(0, Value.ref (enc 12 0)), (1, Value.int x1), (2, Value.int x2), (3, Value.int x3), (4, Value.int x4), (5, Value.int x5)] []) {x1 : Int32} {x2 : Int32} {x3 : Int32} {x4 : Int32} {x5 : Int32} {y0 : Int32} {S : Sg} (h : w_X8_breaks_136 k79 Qa x1 x2 x3 x4 x5 y0 S) : V X p l e R s m args below meth c 7 (QM X below args s S0 ad0 rvI Qa) S0 ad0 S 136 [(0, Value.ref (enc 12 0)), (1, Value.int x1), (2, Value.int x2), (3, Value.int x3), (4, Value.int x4), (5, Value.int x5)] [Value.int y0] := by
  refine V_istore (pc := 136) C dX8_breaks_136 (by decide) rfl ?_
  refine V_aload_n (pc := 138) C dX8_breaks_138 rfl 1 rfl ?_
  refine V_getF (pc := 139) C hT f1_X8_40 g1018 dX8_breaks_139 ?_
  refine V_iload (pc := 142) C dX8_breaks_142 6 rfl ?_
  refine V_dup2 (pc := 144) C dX8_breaks_144 rfl rfl ?_
  refine V_mld (pc := 145) C hT tb1_arr (n := 400) (c9 := 140) rfl rfl rfl h dX8_breaks_145 (fun h => ?_)
  refine V_iload (pc := 146) C dX8_breaks_146 0 rfl ?_
  refine V_isub (pc := 148) C dX8_breaks_148 ?_
  refine V_mst (pc := 149) C hT tb1_arr (n := 400) (c9 := 140) (by decide) rfl rfl rfl h dX8_breaks_149 (fun h => V_nx fun S1 e9 => ?_)
  replace h := h S1 e9; clear e9
  refine V_iload (pc := 150) C dX8_breaks_150 5 rfl ?_
  refine V_iload (pc := 152) C dX8_breaks_152 0 rfl ?_
  refine V_iadd (pc := 154) C dX8_breaks_154 ?_
  refine V_nI fun v2 e9 => ?_
  replace h := h v2 e9; clear e9
  refine V_istore (pc := 155) C dX8_breaks_155 (by decide) rfl ?_
  refine V_iinc (pc := 157) C (a := 6) (v := x5 + 1) dX8_breaks_157 rfl rfl (by decide) rfl ?_
  refine V_goto (pc := 160) (tgt := 79) C dX8_breaks_160 (by decide) ?_
  refine V_sub [3, 4, 5, 6, 1, 0] rfl ?_
  exact hk79 h
def w_X8_breaks_109 (k79 : Int32 → Int32 → Int32 → Int32 → Int32 → Sg → Prop) (Q : Nat → Int32 → Sg → Prop) (x1 : Int32) (x2 : Int32) (x3 : Int32) (x4 : Int32) (x5 : Int32) (S : Sg) : Prop := w_X8_breaks_136 k79 Q x1 x2 x3 x4 x5 0 S
theorem k_X8_breaks_109 (hT : xT X = tb1) (hl : l.stackTraces = false) (C : Cn X k0 p l R s m meth c cX8_breaks RX8 7 3 43) (hr : meth.sig.returnType = (some .int)) (hnm : meth.name = yX8_breaks.name) (htab : ∀ x ∈ c.exceptionTable.toList, False) {k79 : Int32 → Int32 → Int32 → Int32 → Int32 → Sg → Prop} (hk79 : ∀ {x1 : Int32} {x2 : Int32} {x3 : Int32} {x4 : Int32} {x5 : Int32} {S : Sg}, k79 x1 x2 x3 x4 x5 S → V X p l e R s m args below meth c 7 (QM X below args s S0 ad0 rvI Qa) S0 ad0 S 79 [(0, Value.ref (enc 12 0)), (1, Value.int x1), (2, Value.int x2), (3, Value.int x3), (4, Value.int x4), (5, Value.int x5)] []) {x1 : Int32} {x2 : Int32} {x3 : Int32} {x4 : Int32} {x5 : Int32} {S : Sg} (h : w_X8_breaks_109 k79 Qa x1 x2 x3 x4 x5 S) : V X p l e R s m args below meth c 7 (QM X below args s S0 ad0 rvI Qa) S0 ad0 S 109 [(0, Value.ref (enc 12 0)), (1, Value.int x1), (2, Value.int x2), (3, Value.int x3), (4, Value.int x4), (5, Value.int x5)] [] := by
  refine V_iconst (pc := 109) C (v := 0) dX8_breaks_109 rfl ?_
  refine V_goto (pc := 110) (tgt := 136) C dX8_breaks_110 (by decide) ?_
  refine V_sub [0, 1, 2, 3, 4, 5] rfl ?_
  exact k_X8_breaks_136 hT hl C hr hnm htab (fun h => hk79 h) h
def w_X8_breaks_79  (Q : Nat → Int32 → Sg → Prop) : Nat → Int32 → Int32 → Int32 → Int32 → Int32 → Sg → Prop
  | 0, _, _, _, _, _, _ => False
  | n + 1, x1, x2, x3, x4, x5, S => (((S.1 336 0) ≤ x5 → (vp_in x1 30 ∧ (vp_in (S.1 123 (nt x1)) 4 ∧ (vp_in (S.1 123 (nt x1)) 4 ∧ (∀ S3, S3 = su S 105 (nt (S.1 123 (nt x1))) ((S.1 105 (nt (S.1 123 (nt x1)))) + x2) → (vp_in x1 30 ∧ (∀ S4, S4 = su S3 125 (nt x1) 3 → Q 0 x4 S4))))))) ∧ (¬ (S.1 336 0) ≤ x5 → (vp_in x5 400 ∧ (((S.1 137 (nt x5)) = x1 → (vp_in x5 400 ∧ (((S.1 141 (nt x5)) = 0 → ((x3 = 0 → (vp_in x5 400 ∧ w_X8_breaks_136 (fun x1 x2 x3 x4 x5 S => w_X8_breaks_79  Q n x1 x2 x3 x4 x5 S) Q x1 x2 x3 x4 x5 ((S.1 140 (nt x5)) / 2) S)) ∧ (¬ x3 = 0 → (vp_in x5 400 ∧ w_X8_breaks_136 (fun x1 x2 x3 x4 x5 S => w_X8_breaks_79  Q n x1 x2 x3 x4 x5 S) Q x1 x2 x3 x4 x5 (S.1 140 (nt x5)) S)))) ∧ (¬ (S.1 141 (nt x5)) = 0 → w_X8_breaks_109 (fun x1 x2 x3 x4 x5 S => w_X8_breaks_79  Q n x1 x2 x3 x4 x5 S) Q x1 x2 x3 x4 x5 S)))) ∧ (¬ (S.1 137 (nt x5)) = x1 → w_X8_breaks_109 (fun x1 x2 x3 x4 x5 S => w_X8_breaks_79  Q n x1 x2 x3 x4 x5 S) Q x1 x2 x3 x4 x5 S)))))
theorem k_X8_breaks_79 (hT : xT X = tb1) (hl : l.stackTraces = false) (C : Cn X k0 p l R s m meth c cX8_breaks RX8 7 3 43) (hr : meth.sig.returnType = (some .int)) (hnm : meth.name = yX8_breaks.name) (htab : ∀ x ∈ c.exceptionTable.toList, False)  : ∀ n {x1 : Int32} {x2 : Int32} {x3 : Int32} {x4 : Int32} {x5 : Int32} {S : Sg}, w_X8_breaks_79  Qa n x1 x2 x3 x4 x5 S → V X p l e R s m args below meth c 7 (QM X below args s S0 ad0 rvI Qa) S0 ad0 S 79 [(0, Value.ref (enc 12 0)), (1, Value.int x1), (2, Value.int x2), (3, Value.int x3), (4, Value.int x4), (5, Value.int x5)] [] := by
  intro n
  induction n with
  | zero => intro x1 x2 x3 x4 x5 S h; exact h.elim
  | succ n ih =>
    intro x1 x2 x3 x4 x5 S h
    refine V_iload (pc := 79) C dX8_breaks_79 5 rfl ?_
    refine V_aload_n (pc := 81) C dX8_breaks_81 rfl 0 rfl ?_
    refine V_getI (pc := 82) C hT f1_X8_36 g1014 dX8_breaks_82 ?_
    refine V_icmp_ge (pc := 85) (tgt := 163) C dX8_breaks_85 (by decide) h (fun h => ?_) (fun h => ?_)
    · refine V_aload_n (pc := 163) C dX8_breaks_163 rfl 0 rfl ?_
      refine V_getF (pc := 164) C hT f1_X8_5 g983 dX8_breaks_164 ?_
      refine V_aload_n (pc := 167) C dX8_breaks_167 rfl 0 rfl ?_
      refine V_getF (pc := 168) C hT f1_X8_23 g1001 dX8_breaks_168 ?_
      refine V_iload_n (pc := 171) C dX8_breaks_171 rfl 1 rfl ?_
      refine V_mld (pc := 172) C hT tb1_arr (n := 30) (c9 := 123) rfl rfl rfl h dX8_breaks_172 (fun h => ?_)
      refine V_dup2 (pc := 173) C dX8_breaks_173 rfl rfl ?_
      refine V_mld (pc := 174) C hT tb1_arr (n := 4) (c9 := 105) rfl rfl rfl h dX8_breaks_174 (fun h => ?_)
      refine V_iload_n (pc := 175) C dX8_breaks_175 rfl 2 rfl ?_
      refine V_iadd (pc := 176) C dX8_breaks_176 ?_
      refine V_mst (pc := 177) C hT tb1_arr (n := 4) (c9 := 105) (by decide) rfl rfl rfl h dX8_breaks_177 (fun h => V_nx fun S3 e9 => ?_)
      replace h := h S3 e9; clear e9
      refine V_aload_n (pc := 178) C dX8_breaks_178 rfl 0 rfl ?_
      refine V_getF (pc := 179) C hT f1_X8_25 g1003 dX8_breaks_179 ?_
      refine V_iload_n (pc := 182) C dX8_breaks_182 rfl 1 rfl ?_
      refine V_iconst (pc := 183) C (v := 3) dX8_breaks_183 rfl ?_
      refine V_mst (pc := 184) C hT tb1_arr (n := 30) (c9 := 125) (by decide) rfl rfl rfl h dX8_breaks_184 (fun h => V_nx fun S4 e9 => ?_)
      replace h := h S4 e9; clear e9
      refine V_iload (pc := 185) C dX8_breaks_185 4 rfl ?_
      exact V_iret (pc := 187) C hr rfl h dX8_breaks_187
    · refine V_aload_n (pc := 88) C dX8_breaks_88 rfl 0 rfl ?_
      refine V_getF (pc := 89) C hT f1_X8_37 g1015 dX8_breaks_89 ?_
      refine V_iload (pc := 92) C dX8_breaks_92 5 rfl ?_
      refine V_mld (pc := 94) C hT tb1_arr (n := 400) (c9 := 137) rfl rfl rfl h dX8_breaks_94 (fun h => ?_)
      refine V_iload_n (pc := 95) C dX8_breaks_95 rfl 1 rfl ?_
      refine V_icmp_ne (pc := 96) (tgt := 109) C dX8_breaks_96 (by decide) h (fun h => ?_) (fun h => ?_)
      · refine V_sub [0, 1, 2, 3, 4, 5] rfl ?_
        exact k_X8_breaks_109 hT hl C hr hnm htab (fun h => ih h) h
      · refine V_aload_n (pc := 99) C dX8_breaks_99 rfl 0 rfl ?_
        refine V_getF (pc := 100) C hT f1_X8_41 g1019 dX8_breaks_100 ?_
        refine V_iload (pc := 103) C dX8_breaks_103 5 rfl ?_
        refine V_mldZ (pc := 105) C hT tb1_arr (n := 400) (c9 := 141) rfl rfl rfl h dX8_breaks_105 (fun h => ?_)
        refine V_if_eq (pc := 106) (tgt := 113) C dX8_breaks_106 (by decide) h (fun h => ?_) (fun h => ?_)
        · refine V_iload_n (pc := 113) C dX8_breaks_113 rfl 3 rfl ?_
          refine V_if_eq (pc := 114) (tgt := 127) C dX8_breaks_114 (by decide) h (fun h => ?_) (fun h => ?_)
          · refine V_aload_n (pc := 127) C dX8_breaks_127 rfl 0 rfl ?_
            refine V_getF (pc := 128) C hT f1_X8_40 g1018 dX8_breaks_128 ?_
            refine V_iload (pc := 131) C dX8_breaks_131 5 rfl ?_
            refine V_mld (pc := 133) C hT tb1_arr (n := 400) (c9 := 140) rfl rfl rfl h dX8_breaks_133 (fun h => ?_)
            refine V_iconst (pc := 134) C (v := 2) dX8_breaks_134 rfl ?_
            refine V_idiv (pc := 135) C dX8_breaks_135 (by decide) ?_
            refine V_sub [0, 1, 2, 3, 4, 5] rfl ?_
            exact k_X8_breaks_136 hT hl C hr hnm htab (fun h => ih h) h
          · refine V_aload_n (pc := 117) C dX8_breaks_117 rfl 0 rfl ?_
            refine V_getF (pc := 118) C hT f1_X8_40 g1018 dX8_breaks_118 ?_
            refine V_iload (pc := 121) C dX8_breaks_121 5 rfl ?_
            refine V_mld (pc := 123) C hT tb1_arr (n := 400) (c9 := 140) rfl rfl rfl h dX8_breaks_123 (fun h => ?_)
            refine V_goto (pc := 124) (tgt := 136) C dX8_breaks_124 (by decide) ?_
            refine V_sub [0, 1, 2, 3, 4, 5] rfl ?_
            exact k_X8_breaks_136 hT hl C hr hnm htab (fun h => ih h) h
        · refine V_sub [0, 1, 2, 3, 4, 5] rfl ?_
          exact k_X8_breaks_109 hT hl C hr hnm htab (fun h => ih h) h
def w_X8_breaks_72  (Q : Nat → Int32 → Sg → Prop) (x1 : Int32) (x2 : Int32) (y0 : Int32) (S : Sg) : Prop := ∃ n9, w_X8_breaks_79  Q n9 x1 x2 y0 0 0 S
theorem k_X8_breaks_72 (hT : xT X = tb1) (hl : l.stackTraces = false) (C : Cn X k0 p l R s m meth c cX8_breaks RX8 7 3 43) (hr : meth.sig.returnType = (some .int)) (hnm : meth.name = yX8_breaks.name) (htab : ∀ x ∈ c.exceptionTable.toList, False)  {x1 : Int32} {x2 : Int32} {y0 : Int32} {S : Sg} (h : w_X8_breaks_72  Qa x1 x2 y0 S) : V X p l e R s m args below meth c 7 (QM X below args s S0 ad0 rvI Qa) S0 ad0 S 72 [(0, Value.ref (enc 12 0)), (1, Value.int x1), (2, Value.int x2)] [Value.int y0] := by
  refine V_istore_n (pc := 72) C dX8_breaks_72 rfl (by decide) rfl ?_
  refine V_iconst (pc := 73) C (v := 0) dX8_breaks_73 rfl ?_
  refine V_istore (pc := 74) C dX8_breaks_74 (by decide) rfl ?_
  refine V_iconst (pc := 76) C (v := 0) dX8_breaks_76 rfl ?_
  refine V_istore (pc := 77) C dX8_breaks_77 (by decide) rfl ?_
  refine V_sub [3, 4, 5, 2, 1, 0] rfl ?_
  obtain ⟨n9, h⟩ := h
  exact k_X8_breaks_79 hT hl C hr hnm htab  n9 h
def w_X8_breaks_28  (Q : Nat → Int32 → Sg → Prop) (x1 : Int32) (y0 : Int32) (S : Sg) : Prop := (w_X8_fails y0 S (fun k7 v6 S5 => (k7 = 0 → ((v6 = 0 → (vp_in x1 30 ∧ (∀ v8, v8 = (S5.1 300 0) - (S5.1 124 (nt x1)) → (vp_in x1 30 ∧ (vp_in (S5.1 122 (nt x1)) 8 ∧ (((2 * (S5.1 108 (nt (S5.1 122 (nt x1))))) ≤ (3 * v8) → w_X8_breaks_72  Q x1 v8 0 S5) ∧ (¬ (2 * (S5.1 108 (nt (S5.1 122 (nt x1))))) ≤ (3 * v8) → w_X8_breaks_72  Q x1 v8 1 S5))))))) ∧ (¬ v6 = 0 → Q 0 0 S5))) ∧ (¬ k7 = 0 → Q k7 0 S5)))
theorem k_X8_breaks_28 (hT : xT X = tb1) (hl : l.stackTraces = false) (C : Cn X k0 p l R s m meth c cX8_breaks RX8 7 3 43) (hr : meth.sig.returnType = (some .int)) (hnm : meth.name = yX8_breaks.name) (htab : ∀ x ∈ c.exceptionTable.toList, False)  {x1 : Int32} {y0 : Int32} {S : Sg} (h : w_X8_breaks_28  Qa x1 y0 S) : V X p l e R s m args below meth c 7 (QM X below args s S0 ad0 rvI Qa) S0 ad0 S 28 [(0, Value.ref (enc 12 0)), (1, Value.int x1)] [Value.int y0, Value.ref (enc 12 0)] := by
  refine V_callV (pc := 28) C (ct_X8_fails hT hl h) g1120 g1122 g32 g1123 g64 ⟨by decide, by decide, pl_X8_fails⟩ (enc_ne63 (by decide)) (ct_obj hT rfl (by decide)) rfl ⟨by decide, by decide⟩ (rest := []) rfl (le8 rfl) dX8_breaks_28 (fun v6 S5 h => ?_) (fun k9 S9 hk h => VX_out C htab hk (h.2 (by omega)))
  replace h := h.1 rfl
  refine V_st (st' := [Value.int v6]) rfl ?_
  refine V_if_eq (pc := 31) (tgt := 36) C dX8_breaks_31 (by decide) h (fun h => ?_) (fun h => ?_)
  · refine V_aload_n (pc := 36) C dX8_breaks_36 rfl 0 rfl ?_
    refine V_getI (pc := 37) C hT f1_X8_0 g978 dX8_breaks_37 ?_
    refine V_aload_n (pc := 40) C dX8_breaks_40 rfl 0 rfl ?_
    refine V_getF (pc := 41) C hT f1_X8_24 g1002 dX8_breaks_41 ?_
    refine V_iload_n (pc := 44) C dX8_breaks_44 rfl 1 rfl ?_
    refine V_mld (pc := 45) C hT tb1_arr (n := 30) (c9 := 124) rfl rfl rfl h dX8_breaks_45 (fun h => ?_)
    refine V_isub (pc := 46) C dX8_breaks_46 ?_
    refine V_nI fun v8 e9 => ?_
    replace h := h v8 e9; clear e9
    refine V_istore_n (pc := 47) C dX8_breaks_47 rfl (by decide) rfl ?_
    refine V_iconst (pc := 48) C (v := 3) dX8_breaks_48 rfl ?_
    refine V_iload_n (pc := 49) C dX8_breaks_49 rfl 0 rfl ?_
    refine V_imul (pc := 50) C dX8_breaks_50 ?_
    refine V_iconst (pc := 51) C (v := 2) dX8_breaks_51 rfl ?_
    refine V_aload_n (pc := 52) C dX8_breaks_52 rfl 1 rfl ?_
    refine V_getF (pc := 53) C hT f1_X8_8 g986 dX8_breaks_53 ?_
    refine V_aload_n (pc := 56) C dX8_breaks_56 rfl 1 rfl ?_
    refine V_getF (pc := 57) C hT f1_X8_22 g1000 dX8_breaks_57 ?_
    refine V_iload_n (pc := 60) C dX8_breaks_60 rfl 2 rfl ?_
    refine V_mld (pc := 61) C hT tb1_arr (n := 30) (c9 := 122) rfl rfl rfl h dX8_breaks_61 (fun h => ?_)
    refine V_mld (pc := 62) C hT tb1_arr (n := 8) (c9 := 108) rfl rfl rfl h dX8_breaks_62 (fun h => ?_)
    refine V_imul (pc := 63) C dX8_breaks_63 ?_
    refine V_icmp_ge (pc := 64) (tgt := 71) C dX8_breaks_64 (by decide) h (fun h => ?_) (fun h => ?_)
    · refine V_iconst (pc := 71) C (v := 0) dX8_breaks_71 rfl ?_
      refine V_sub [1, 2, 0] rfl ?_
      exact k_X8_breaks_72 hT hl C hr hnm htab  h
    · refine V_iconst (pc := 67) C (v := 1) dX8_breaks_67 rfl ?_
      refine V_goto (pc := 68) (tgt := 72) C dX8_breaks_68 (by decide) ?_
      refine V_sub [1, 2, 0] rfl ?_
      exact k_X8_breaks_72 hT hl C hr hnm htab  h
  · refine V_iconst (pc := 34) C (v := 0) dX8_breaks_34 rfl ?_
    exact V_iret (pc := 35) C hr rfl h dX8_breaks_35
def w_X8_breaks (a1 : Int32) (S : Sg) (Q : Nat → Int32 → Sg → Prop) : Prop := (w_X8_isShow a1 S (fun k11 v10 S9 => (k11 = 0 → ((v10 = 0 → w_X8_breaks_28  Q a1 1 S9) ∧ (¬ v10 = 0 → (vp_in a1 30 ∧ (((S9.1 125 (nt a1)) = 1 → w_X8_breaks_28  Q a1 0 S9) ∧ (¬ (S9.1 125 (nt a1)) = 1 → w_X8_breaks_28  Q a1 2 S9)))))) ∧ (¬ k11 = 0 → Q k11 0 S9)))
theorem ct_X8_breaks (hT : xT X = tb1) (hl : l.stackTraces = false) {a1 : Int32} {S : Sg} (h : w_X8_breaks a1 S Qa) : CT X k0 l yX8_breaks cX8_breaks 7 (some .int) 3 43 [Value.ref (enc 12 0), Value.int a1] rvI S Qa :=
  CT_ofV (own := RX8) (by decide +kernel) (le8 rfl) rfl hl fun p e R s m args below meth c ad0 C hr hnm htab => by
    refine V_aload_n (pc := 0) C dX8_breaks_0 rfl 0 rfl ?_
    refine V_aload_n (pc := 1) C dX8_breaks_1 rfl 0 rfl ?_
    refine V_iload_n (pc := 2) C dX8_breaks_2 rfl 1 rfl ?_
    refine V_callV (pc := 3) C (ct_X8_isShow hT hl h) g1174 g1176 g38 g1177 g64 ⟨by decide, by decide, pl_X8_isShow⟩ (enc_ne63 (by decide)) (ct_obj hT rfl (by decide)) rfl ⟨by decide, by decide⟩ (rest := [Value.ref (enc 12 0)]) rfl (le8 rfl) dX8_breaks_3 (fun v10 S9 h => ?_) (fun k9 S9 hk h => VX_out C htab hk (h.2 (by omega)))
    replace h := h.1 rfl
    refine V_st (st' := [Value.int v10, Value.ref (enc 12 0)]) rfl ?_
    refine V_if_ne (pc := 6) (tgt := 13) C dX8_breaks_6 (by decide) h (fun h => ?_) (fun h => ?_)
    · refine V_aload_n (pc := 13) C dX8_breaks_13 rfl 0 rfl ?_
      refine V_getF (pc := 14) C hT f1_X8_25 g1003 dX8_breaks_14 ?_
      refine V_iload_n (pc := 17) C dX8_breaks_17 rfl 1 rfl ?_
      refine V_mld (pc := 18) C hT tb1_arr (n := 30) (c9 := 125) rfl rfl rfl h dX8_breaks_18 (fun h => ?_)
      refine V_iconst (pc := 19) C (v := 1) dX8_breaks_19 rfl ?_
      refine V_icmp_eq (pc := 20) (tgt := 27) C dX8_breaks_20 (by decide) h (fun h => ?_) (fun h => ?_)
      · refine V_iconst (pc := 27) C (v := 0) dX8_breaks_27 rfl ?_
        refine V_sub [0, 1] rfl ?_
        exact k_X8_breaks_28 hT hl C hr hnm htab  h
      · refine V_iconst (pc := 23) C (v := 2) dX8_breaks_23 rfl ?_
        refine V_goto (pc := 24) (tgt := 28) C dX8_breaks_24 (by decide) ?_
        refine V_sub [0, 1] rfl ?_
        exact k_X8_breaks_28 hT hl C hr hnm htab  h
    · refine V_iconst (pc := 9) C (v := 1) dX8_breaks_9 rfl ?_
      refine V_goto (pc := 10) (tgt := 28) C dX8_breaks_10 (by decide) ?_
      refine V_sub [0, 1] rfl ?_
      exact k_X8_breaks_28 hT hl C hr hnm htab  h
theorem pl_X8_priceOf : (parseMethodDescriptor yX8_priceOf.desc).map (fun d => d.parameters.length) = some 2 := by decide +kernel
def w_X8_priceOf_37  (Q : Nat → Int32 → Sg → Prop) (x2 : Int32) (y0 : Int32) (S : Sg) : Prop := ((12 ≤ x2 → Q 0 y0 S) ∧ (¬ 12 ≤ x2 → Q 0 (y0 / 2) S))
theorem k_X8_priceOf_37 (hT : xT X = tb1) (hl : l.stackTraces = false) (C : Cn X k0 p l R s m meth c cX8_priceOf RX8 4 1 0) (hr : meth.sig.returnType = (some .int)) (hnm : meth.name = yX8_priceOf.name) (htab : ∀ x ∈ c.exceptionTable.toList, False)  {x2 : Int32} {y0 : Int32} {S : Sg} (h : w_X8_priceOf_37  Qa x2 y0 S) : V X p l e R s m args below meth c 4 (QM X below args s S0 ad0 rvI Qa) S0 ad0 S 37 [(2, Value.int x2)] [Value.int y0] := by
  refine V_istore_n (pc := 37) C dX8_priceOf_37 rfl (by decide) rfl ?_
  refine V_iload_n (pc := 38) C dX8_priceOf_38 rfl 1 rfl ?_
  refine V_bipush (pc := 39) C (v := 12) dX8_priceOf_39 rfl ?_
  refine V_icmp_ge (pc := 41) (tgt := 50) C dX8_priceOf_41 (by decide) h (fun h => ?_) (fun h => ?_)
  · refine V_iload_n (pc := 50) C dX8_priceOf_50 rfl 0 rfl ?_
    exact V_iret (pc := 51) C hr rfl h dX8_priceOf_51
  · refine V_iload_n (pc := 44) C dX8_priceOf_44 rfl 0 rfl ?_
    refine V_iconst (pc := 45) C (v := 2) dX8_priceOf_45 rfl ?_
    refine V_idiv (pc := 46) C dX8_priceOf_46 (by decide) ?_
    refine V_goto (pc := 47) (tgt := 51) C dX8_priceOf_47 (by decide) ?_
    exact V_iret (pc := 51) C hr rfl h dX8_priceOf_51
def w_X8_priceOf (a1 : Int32) (a2 : Int32) (S : Sg) (Q : Nat → Int32 → Sg → Prop) : Prop := (vp_in a1 30 ∧ (vp_in (S.1 122 (nt a1)) 8 ∧ (∀ v1, v1 = S.1 110 (nt (S.1 122 (nt a1))) → (vp_in a1 30 ∧ ((1080 ≤ ((S.1 124 (nt a1)) - (S.1 124 (nt a1)) / 1440 * 1440) → w_X8_priceOf_37  Q a2 v1 S) ∧ (¬ 1080 ≤ ((S.1 124 (nt a1)) - (S.1 124 (nt a1)) / 1440 * 1440) → w_X8_priceOf_37  Q a2 ((3 * v1) / 4) S))))))
theorem ct_X8_priceOf (hT : xT X = tb1) (hl : l.stackTraces = false) {a1 : Int32} {a2 : Int32} {S : Sg} (h : w_X8_priceOf a1 a2 S Qa) : CT X k0 l yX8_priceOf cX8_priceOf 4 (some .int) 1 0 [Value.ref (enc 12 0), Value.int a1, Value.int a2] rvI S Qa :=
  CT_ofV (own := RX8) (by decide +kernel) (le8 rfl) rfl hl fun p e R s m args below meth c ad0 C hr hnm htab => by
    refine V_aload_n (pc := 0) C dX8_priceOf_0 rfl 0 rfl ?_
    refine V_getF (pc := 1) C hT f1_X8_10 g988 dX8_priceOf_1 ?_
    refine V_aload_n (pc := 4) C dX8_priceOf_4 rfl 0 rfl ?_
    refine V_getF (pc := 5) C hT f1_X8_22 g1000 dX8_priceOf_5 ?_
    refine V_iload_n (pc := 8) C dX8_priceOf_8 rfl 1 rfl ?_
    refine V_mld (pc := 9) C hT tb1_arr (n := 30) (c9 := 122) rfl rfl rfl h dX8_priceOf_9 (fun h => ?_)
    refine V_mld (pc := 10) C hT tb1_arr (n := 8) (c9 := 110) rfl rfl rfl h dX8_priceOf_10 (fun h => ?_)
    refine V_nI fun v1 e9 => ?_
    replace h := h v1 e9; clear e9
    refine V_istore_n (pc := 11) C dX8_priceOf_11 rfl (by decide) rfl ?_
    refine V_aload_n (pc := 12) C dX8_priceOf_12 rfl 1 rfl ?_
    refine V_getF (pc := 13) C hT f1_X8_24 g1002 dX8_priceOf_13 ?_
    refine V_iload_n (pc := 16) C dX8_priceOf_16 rfl 2 rfl ?_
    refine V_mld (pc := 17) C hT tb1_arr (n := 30) (c9 := 124) rfl rfl rfl h dX8_priceOf_17 (fun h => ?_)
    refine V_sipush (pc := 18) C (v := 1440) dX8_priceOf_18 rfl ?_
    refine V_irem (pc := 21) C dX8_priceOf_21 (by decide) ?_
    refine V_sipush (pc := 22) C (v := 1080) dX8_priceOf_22 rfl ?_
    refine V_icmp_ge (pc := 25) (tgt := 36) C dX8_priceOf_25 (by decide) h (fun h => ?_) (fun h => ?_)
    · refine V_iload_n (pc := 36) C dX8_priceOf_36 rfl 0 rfl ?_
      refine V_sub [3] rfl ?_
      exact k_X8_priceOf_37 hT hl C hr hnm htab  h
    · refine V_iconst (pc := 28) C (v := 3) dX8_priceOf_28 rfl ?_
      refine V_iload_n (pc := 29) C dX8_priceOf_29 rfl 0 rfl ?_
      refine V_imul (pc := 30) C dX8_priceOf_30 ?_
      refine V_iconst (pc := 31) C (v := 4) dX8_priceOf_31 rfl ?_
      refine V_idiv (pc := 32) C dX8_priceOf_32 (by decide) ?_
      refine V_goto (pc := 33) (tgt := 37) C dX8_priceOf_33 (by decide) ?_
      refine V_sub [3] rfl ?_
      exact k_X8_priceOf_37 hT hl C hr hnm htab  h
theorem pl_X8_sells : (parseMethodDescriptor yX8_sells.desc).map (fun d => d.parameters.length) = some 3 := by decide +kernel
def w_X8_sells (a1 : Int32) (a2 : Int32) (a3 : Int32) (S : Sg) (Q : Nat → Int32 → Sg → Prop) : Prop := (vp_in (S.1 336 0) 400 ∧ (∀ S1, S1 = su S 137 (nt (S.1 336 0)) a1 → (vp_in (S1.1 336 0) 400 ∧ (∀ S2, S2 = su S1 138 (nt (S1.1 336 0)) a2 → (vp_in (S2.1 336 0) 400 ∧ (∀ S3, S3 = su S2 139 (nt (S2.1 336 0)) a3 → (w_X8_priceOf a1 a3 S3 (fun k6 v5 S4 => (k6 = 0 → (vp_in (S3.1 336 0) 400 ∧ (∀ S7, S7 = su S4 140 (nt (S3.1 336 0)) v5 → (vp_in ((48 * a1) + a2) 1440 ∧ (∀ S8, S8 = su S7 126 (nt ((48 * a1) + a2)) (S7.1 336 0) → (∀ S9, S9 = su S8 336 0 ((S8.1 336 0) + 1) → Q 0 ((S9.1 336 0) - 1) S9)))))) ∧ (¬ k6 = 0 → Q k6 0 S4)))))))))
theorem ct_X8_sells (hT : xT X = tb1) (hl : l.stackTraces = false) {a1 : Int32} {a2 : Int32} {a3 : Int32} {S : Sg} (h : w_X8_sells a1 a2 a3 S Qa) : CT X k0 l yX8_sells cX8_sells 4 (some .int) 2 23 [Value.ref (enc 12 0), Value.int a1, Value.int a2, Value.int a3] rvI S Qa :=
  CT_ofV (own := RX8) (by decide +kernel) (le8 rfl) rfl hl fun p e R s m args below meth c ad0 C hr hnm htab => by
    refine V_aload_n (pc := 0) C dX8_sells_0 rfl 0 rfl ?_
    refine V_getF (pc := 1) C hT f1_X8_37 g1015 dX8_sells_1 ?_
    refine V_aload_n (pc := 4) C dX8_sells_4 rfl 0 rfl ?_
    refine V_getI (pc := 5) C hT f1_X8_36 g1014 dX8_sells_5 ?_
    refine V_iload_n (pc := 8) C dX8_sells_8 rfl 1 rfl ?_
    refine V_mst (pc := 9) C hT tb1_arr (n := 400) (c9 := 137) (by decide) rfl rfl rfl h dX8_sells_9 (fun h => V_nx fun S1 e9 => ?_)
    replace h := h S1 e9; clear e9
    refine V_aload_n (pc := 10) C dX8_sells_10 rfl 0 rfl ?_
    refine V_getF (pc := 11) C hT f1_X8_38 g1016 dX8_sells_11 ?_
    refine V_aload_n (pc := 14) C dX8_sells_14 rfl 0 rfl ?_
    refine V_getI (pc := 15) C hT f1_X8_36 g1014 dX8_sells_15 ?_
    refine V_iload_n (pc := 18) C dX8_sells_18 rfl 2 rfl ?_
    refine V_mst (pc := 19) C hT tb1_arr (n := 400) (c9 := 138) (by decide) rfl rfl rfl h dX8_sells_19 (fun h => V_nx fun S2 e9 => ?_)
    replace h := h S2 e9; clear e9
    refine V_aload_n (pc := 20) C dX8_sells_20 rfl 0 rfl ?_
    refine V_getF (pc := 21) C hT f1_X8_39 g1017 dX8_sells_21 ?_
    refine V_aload_n (pc := 24) C dX8_sells_24 rfl 0 rfl ?_
    refine V_getI (pc := 25) C hT f1_X8_36 g1014 dX8_sells_25 ?_
    refine V_iload_n (pc := 28) C dX8_sells_28 rfl 3 rfl ?_
    refine V_mst (pc := 29) C hT tb1_arr (n := 400) (c9 := 139) (by decide) rfl rfl rfl h dX8_sells_29 (fun h => V_nx fun S3 e9 => ?_)
    replace h := h S3 e9; clear e9
    refine V_aload_n (pc := 30) C dX8_sells_30 rfl 0 rfl ?_
    refine V_getF (pc := 31) C hT f1_X8_40 g1018 dX8_sells_31 ?_
    refine V_aload_n (pc := 34) C dX8_sells_34 rfl 0 rfl ?_
    refine V_getI (pc := 35) C hT f1_X8_36 g1014 dX8_sells_35 ?_
    refine V_aload_n (pc := 38) C dX8_sells_38 rfl 0 rfl ?_
    refine V_iload_n (pc := 39) C dX8_sells_39 rfl 1 rfl ?_
    refine V_iload_n (pc := 40) C dX8_sells_40 rfl 3 rfl ?_
    refine V_callV (pc := 41) C (ct_X8_priceOf hT hl h) g1202 g1204 g43 g1205 g64 ⟨by decide, by decide, pl_X8_priceOf⟩ (enc_ne63 (by decide)) (ct_obj hT rfl (by decide)) rfl ⟨by decide, by decide⟩ (rest := [Value.int (S3.1 336 0), Value.ref (enc 13 40)]) rfl (le8 rfl) dX8_sells_41 (fun v5 S4 h => ?_) (fun k9 S9 hk h => VX_out C htab hk (h.2 (by omega)))
    replace h := h.1 rfl
    refine V_st (st' := [Value.int v5, Value.int (S3.1 336 0), Value.ref (enc 13 40)]) rfl ?_
    refine V_mst (pc := 44) C hT tb1_arr (n := 400) (c9 := 140) (by decide) rfl rfl rfl h dX8_sells_44 (fun h => V_nx fun S7 e9 => ?_)
    replace h := h S7 e9; clear e9
    refine V_aload_n (pc := 45) C dX8_sells_45 rfl 0 rfl ?_
    refine V_getF (pc := 46) C hT f1_X8_26 g1004 dX8_sells_46 ?_
    refine V_bipush (pc := 49) C (v := 48) dX8_sells_49 rfl ?_
    refine V_iload_n (pc := 51) C dX8_sells_51 rfl 1 rfl ?_
    refine V_imul (pc := 52) C dX8_sells_52 ?_
    refine V_iload_n (pc := 53) C dX8_sells_53 rfl 2 rfl ?_
    refine V_iadd (pc := 54) C dX8_sells_54 ?_
    refine V_aload_n (pc := 55) C dX8_sells_55 rfl 0 rfl ?_
    refine V_getI (pc := 56) C hT f1_X8_36 g1014 dX8_sells_56 ?_
    refine V_mst (pc := 59) C hT tb1_arr (n := 1440) (c9 := 126) (by decide) rfl rfl rfl h dX8_sells_59 (fun h => V_nx fun S8 e9 => ?_)
    replace h := h S8 e9; clear e9
    refine V_aload_n (pc := 60) C dX8_sells_60 rfl 0 rfl ?_
    refine V_dup (pc := 61) C dX8_sells_61 rfl ?_
    refine V_getI (pc := 62) C hT f1_X8_36 g1014 dX8_sells_62 ?_
    refine V_iconst (pc := 65) C (v := 1) dX8_sells_65 rfl ?_
    refine V_iadd (pc := 66) C dX8_sells_66 ?_
    refine V_putI (pc := 67) C hT tb1_ok f1_X8_36 (by unfold lc; decide) g1014 (Or.inl rfl) (Or.inl rfl) dX8_sells_67 (V_nx fun S9 e9 => ?_)
    replace h := h S9 e9; clear e9
    refine V_aload_n (pc := 70) C dX8_sells_70 rfl 0 rfl ?_
    refine V_getI (pc := 71) C hT f1_X8_36 g1014 dX8_sells_71 ?_
    refine V_iconst (pc := 74) C (v := 1) dX8_sells_74 rfl ?_
    refine V_isub (pc := 75) C dX8_sells_75 ?_
    exact V_iret (pc := 76) C hr rfl h dX8_sells_76
theorem pl_X8_frees : (parseMethodDescriptor yX8_frees.desc).map (fun d => d.parameters.length) = some 2 := by decide +kernel
def w_X8_frees_47  (Q : Nat → Int32 → Sg → Prop) : Nat → Int32 → Int32 → Int32 → Int32 → Int32 → Sg → Prop
  | 0, _, _, _, _, _, _ => False
  | n + 1, x1, x2, x3, x4, x5, S => (vp_in x1 30 ∧ (((x3 + (S.1 128 (nt x1))) ≤ x5 → (w_X8_sells x1 x2 x4 S (fun k3 v2 S1 => (k3 = 0 → Q 0 v2 S1) ∧ (¬ k3 = 0 → Q k3 0 S1)))) ∧ (¬ (x3 + (S.1 128 (nt x1))) ≤ x5 → (vp_in (x5 + 1) 1200 ∧ (vp_in x5 1200 ∧ (∀ S4, S4 = su S 129 (nt x5) (S.1 129 (nt (x5 + 1))) → (vp_in (x5 + 1) 1200 ∧ (vp_in x5 1200 ∧ (S4.1 130 (nt (x5 + 1)) = 0 ∨ S4.1 130 (nt (x5 + 1)) = 1) ∧ (∀ S5, S5 = su S4 130 (nt x5) (S4.1 130 (nt (x5 + 1))) → w_X8_frees_47  Q n x1 x2 x3 x4 (x5 + 1) S5)))))))))
theorem k_X8_frees_47 (hT : xT X = tb1) (hl : l.stackTraces = false) (C : Cn X k0 p l R s m meth c cX8_frees RX8 6 3 46) (hr : meth.sig.returnType = (some .int)) (hnm : meth.name = yX8_frees.name) (htab : ∀ x ∈ c.exceptionTable.toList, False)  : ∀ n {x1 : Int32} {x2 : Int32} {x3 : Int32} {x4 : Int32} {x5 : Int32} {S : Sg}, w_X8_frees_47  Qa n x1 x2 x3 x4 x5 S → V X p l e R s m args below meth c 6 (QM X below args s S0 ad0 rvI Qa) S0 ad0 S 47 [(0, Value.ref (enc 12 0)), (1, Value.int x1), (2, Value.int x2), (3, Value.int x3), (4, Value.int x4), (5, Value.int x5)] [] := by
  intro n
  induction n with
  | zero => intro x1 x2 x3 x4 x5 S h; exact h.elim
  | succ n ih =>
    intro x1 x2 x3 x4 x5 S h
    refine V_iload (pc := 47) C dX8_frees_47 5 rfl ?_
    refine V_iload_n (pc := 49) C dX8_frees_49 rfl 3 rfl ?_
    refine V_aload_n (pc := 50) C dX8_frees_50 rfl 0 rfl ?_
    refine V_getF (pc := 51) C hT f1_X8_28 g1006 dX8_frees_51 ?_
    refine V_iload_n (pc := 54) C dX8_frees_54 rfl 1 rfl ?_
    refine V_mld (pc := 55) C hT tb1_arr (n := 30) (c9 := 128) rfl rfl rfl h dX8_frees_55 (fun h => ?_)
    refine V_iadd (pc := 56) C dX8_frees_56 ?_
    refine V_icmp_ge (pc := 57) (tgt := 98) C dX8_frees_57 (by decide) h (fun h => ?_) (fun h => ?_)
    · refine V_aload_n (pc := 98) C dX8_frees_98 rfl 0 rfl ?_
      refine V_iload_n (pc := 99) C dX8_frees_99 rfl 1 rfl ?_
      refine V_iload_n (pc := 100) C dX8_frees_100 rfl 2 rfl ?_
      refine V_iload (pc := 101) C dX8_frees_101 4 rfl ?_
      refine V_callV (pc := 103) C (ct_X8_sells hT hl h) g1198 g1200 g42 g1201 g64 ⟨by decide, by decide, pl_X8_sells⟩ (enc_ne63 (by decide)) (ct_obj hT rfl (by decide)) rfl ⟨by decide, by decide⟩ (rest := []) rfl (le8 rfl) dX8_frees_103 (fun v2 S1 h => ?_) (fun k9 S9 hk h => VX_out C htab hk (h.2 (by omega)))
      replace h := h.1 rfl
      refine V_st (st' := [Value.int v2]) rfl ?_
      exact V_iret (pc := 106) C hr rfl h dX8_frees_106
    · refine V_aload_n (pc := 60) C dX8_frees_60 rfl 0 rfl ?_
      refine V_getF (pc := 61) C hT f1_X8_29 g1007 dX8_frees_61 ?_
      refine V_iload (pc := 64) C dX8_frees_64 5 rfl ?_
      refine V_aload_n (pc := 66) C dX8_frees_66 rfl 0 rfl ?_
      refine V_getF (pc := 67) C hT f1_X8_29 g1007 dX8_frees_67 ?_
      refine V_iload (pc := 70) C dX8_frees_70 5 rfl ?_
      refine V_iconst (pc := 72) C (v := 1) dX8_frees_72 rfl ?_
      refine V_iadd (pc := 73) C dX8_frees_73 ?_
      refine V_mld (pc := 74) C hT tb1_arr (n := 1200) (c9 := 129) rfl rfl rfl h dX8_frees_74 (fun h => ?_)
      refine V_mst (pc := 75) C hT tb1_arr (n := 1200) (c9 := 129) (by decide) rfl rfl rfl h dX8_frees_75 (fun h => V_nx fun S4 e9 => ?_)
      replace h := h S4 e9; clear e9
      refine V_aload_n (pc := 76) C dX8_frees_76 rfl 0 rfl ?_
      refine V_getF (pc := 77) C hT f1_X8_30 g1008 dX8_frees_77 ?_
      refine V_iload (pc := 80) C dX8_frees_80 5 rfl ?_
      refine V_aload_n (pc := 82) C dX8_frees_82 rfl 0 rfl ?_
      refine V_getF (pc := 83) C hT f1_X8_30 g1008 dX8_frees_83 ?_
      refine V_iload (pc := 86) C dX8_frees_86 5 rfl ?_
      refine V_iconst (pc := 88) C (v := 1) dX8_frees_88 rfl ?_
      refine V_iadd (pc := 89) C dX8_frees_89 ?_
      refine V_mldZ (pc := 90) C hT tb1_arr (n := 1200) (c9 := 130) rfl rfl rfl h dX8_frees_90 (fun h => ?_)
      refine V_mstZ (pc := 91) C hT tb1_arr (n := 1200) (c9 := 130) (by decide) rfl rfl rfl h dX8_frees_91 (fun h => V_nx fun S5 e9 => ?_)
      replace h := h S5 e9; clear e9
      refine V_iinc (pc := 92) C (a := 5) (v := x5 + 1) dX8_frees_92 rfl rfl (by decide) rfl ?_
      refine V_goto (pc := 95) (tgt := 47) C dX8_frees_95 (by decide) ?_
      refine V_sub [1, 2, 3, 4, 5, 0] rfl ?_
      exact ih h
def w_X8_frees (a1 : Int32) (a2 : Int32) (S : Sg) (Q : Nat → Int32 → Sg → Prop) : Prop := (vp_in a1 30 ∧ (((S.1 128 (nt a1)) = 0 → Q 0 (-1) S) ∧ (¬ (S.1 128 (nt a1)) = 0 → (((S.1 336 0) = 400 → Q 0 (-1) S) ∧ (¬ (S.1 336 0) = 400 → (∀ v6, v6 = 40 * a1 → (vp_in v6 1200 ∧ (∀ v7, v7 = S.1 129 (nt v6) → (vp_in a1 30 ∧ (vp_in a1 30 ∧ (∀ S8, S8 = su S 128 (nt a1) ((S.1 128 (nt a1)) - 1) → ∃ n9, w_X8_frees_47  Q n9 a1 a2 v6 v7 v6 S8)))))))))))
theorem ct_X8_frees (hT : xT X = tb1) (hl : l.stackTraces = false) {a1 : Int32} {a2 : Int32} {S : Sg} (h : w_X8_frees a1 a2 S Qa) : CT X k0 l yX8_frees cX8_frees 6 (some .int) 3 46 [Value.ref (enc 12 0), Value.int a1, Value.int a2] rvI S Qa :=
  CT_ofV (own := RX8) (by decide +kernel) (le8 rfl) rfl hl fun p e R s m args below meth c ad0 C hr hnm htab => by
    refine V_aload_n (pc := 0) C dX8_frees_0 rfl 0 rfl ?_
    refine V_getF (pc := 1) C hT f1_X8_28 g1006 dX8_frees_1 ?_
    refine V_iload_n (pc := 4) C dX8_frees_4 rfl 1 rfl ?_
    refine V_mld (pc := 5) C hT tb1_arr (n := 30) (c9 := 128) rfl rfl rfl h dX8_frees_5 (fun h => ?_)
    refine V_if_eq (pc := 6) (tgt := 19) C dX8_frees_6 (by decide) h (fun h => ?_) (fun h => ?_)
    · refine V_iconst (pc := 19) C (v := (-1)) dX8_frees_19 rfl ?_
      exact V_iret (pc := 20) C hr rfl h dX8_frees_20
    · refine V_aload_n (pc := 9) C dX8_frees_9 rfl 0 rfl ?_
      refine V_getI (pc := 10) C hT f1_X8_36 g1014 dX8_frees_10 ?_
      refine V_sipush (pc := 13) C (v := 400) dX8_frees_13 rfl ?_
      refine V_icmp_ne (pc := 16) (tgt := 21) C dX8_frees_16 (by decide) h (fun h => ?_) (fun h => ?_)
      · refine V_bipush (pc := 21) C (v := 40) dX8_frees_21 rfl ?_
        refine V_iload_n (pc := 23) C dX8_frees_23 rfl 1 rfl ?_
        refine V_imul (pc := 24) C dX8_frees_24 ?_
        refine V_nI fun v6 e9 => ?_
        replace h := h v6 e9; clear e9
        refine V_istore_n (pc := 25) C dX8_frees_25 rfl (by decide) rfl ?_
        refine V_aload_n (pc := 26) C dX8_frees_26 rfl 1 rfl ?_
        refine V_getF (pc := 27) C hT f1_X8_29 g1007 dX8_frees_27 ?_
        refine V_iload_n (pc := 30) C dX8_frees_30 rfl 0 rfl ?_
        refine V_mld (pc := 31) C hT tb1_arr (n := 1200) (c9 := 129) rfl rfl rfl h dX8_frees_31 (fun h => ?_)
        refine V_nI fun v7 e9 => ?_
        replace h := h v7 e9; clear e9
        refine V_istore (pc := 32) C dX8_frees_32 (by decide) rfl ?_
        refine V_aload_n (pc := 34) C dX8_frees_34 rfl 2 rfl ?_
        refine V_getF (pc := 35) C hT f1_X8_28 g1006 dX8_frees_35 ?_
        refine V_iload_n (pc := 38) C dX8_frees_38 rfl 3 rfl ?_
        refine V_dup2 (pc := 39) C dX8_frees_39 rfl rfl ?_
        refine V_mld (pc := 40) C hT tb1_arr (n := 30) (c9 := 128) rfl rfl rfl h dX8_frees_40 (fun h => ?_)
        refine V_iconst (pc := 41) C (v := 1) dX8_frees_41 rfl ?_
        refine V_isub (pc := 42) C dX8_frees_42 ?_
        refine V_mst (pc := 43) C hT tb1_arr (n := 30) (c9 := 128) (by decide) rfl rfl rfl h dX8_frees_43 (fun h => V_nx fun S8 e9 => ?_)
        replace h := h S8 e9; clear e9
        refine V_iload_n (pc := 44) C dX8_frees_44 rfl 1 rfl ?_
        refine V_istore (pc := 45) C dX8_frees_45 (by decide) rfl ?_
        refine V_sub [3, 4, 5, 2, 1, 0] rfl ?_
        obtain ⟨n9, h⟩ := h
        exact k_X8_frees_47 hT hl C hr hnm htab  n9 h
      · refine V_iconst (pc := 19) C (v := (-1)) dX8_frees_19 rfl ?_
        exact V_iret (pc := 20) C hr rfl h dX8_frees_20
theorem pl_X8_ends : (parseMethodDescriptor yX8_ends.desc).map (fun d => d.parameters.length) = some 1 := by decide +kernel
def w_X8_ends (a1 : Int32) (S : Sg) (Q : Nat → Int32 → Sg → Prop) : Prop := (vp_in a1 100 ∧ ((1 : Int32) = 0 ∨ (1 : Int32) = 1) ∧ (∀ S1, S1 = su S 135 (nt a1) 1 → (vp_in a1 100 ∧ (vp_in a1 100 ∧ (vp_in ((48 * (S1.1 132 (nt a1))) + (S1.1 133 (nt a1))) 1440 ∧ (∀ S2, S2 = su S1 127 (nt ((48 * (S1.1 132 (nt a1))) + (S1.1 133 (nt a1)))) (-1) → (vp_in a1 100 ∧ (vp_in a1 100 ∧ (w_X8_frees (S2.1 132 (nt a1)) (S2.1 133 (nt a1)) S2 (fun k5 v4 S3 => (k5 = 0 → Q 0 v4 S3) ∧ (¬ k5 = 0 → Q k5 0 S3)))))))))))
theorem ct_X8_ends (hT : xT X = tb1) (hl : l.stackTraces = false) {a1 : Int32} {S : Sg} (h : w_X8_ends a1 S Qa) : CT X k0 l yX8_ends cX8_ends 2 (some .int) 4 71 [Value.ref (enc 12 0), Value.int a1] rvI S Qa :=
  CT_ofV (own := RX8) (by decide +kernel) (le8 rfl) rfl hl fun p e R s m args below meth c ad0 C hr hnm htab => by
    refine V_aload_n (pc := 0) C dX8_ends_0 rfl 0 rfl ?_
    refine V_getF (pc := 1) C hT f1_X8_35 g1013 dX8_ends_1 ?_
    refine V_iload_n (pc := 4) C dX8_ends_4 rfl 1 rfl ?_
    refine V_iconst (pc := 5) C (v := 1) dX8_ends_5 rfl ?_
    refine V_mstZ (pc := 6) C hT tb1_arr (n := 100) (c9 := 135) (by decide) rfl rfl rfl h dX8_ends_6 (fun h => V_nx fun S1 e9 => ?_)
    replace h := h S1 e9; clear e9
    refine V_aload_n (pc := 7) C dX8_ends_7 rfl 0 rfl ?_
    refine V_getF (pc := 8) C hT f1_X8_27 g1005 dX8_ends_8 ?_
    refine V_bipush (pc := 11) C (v := 48) dX8_ends_11 rfl ?_
    refine V_aload_n (pc := 13) C dX8_ends_13 rfl 0 rfl ?_
    refine V_getF (pc := 14) C hT f1_X8_32 g1010 dX8_ends_14 ?_
    refine V_iload_n (pc := 17) C dX8_ends_17 rfl 1 rfl ?_
    refine V_mld (pc := 18) C hT tb1_arr (n := 100) (c9 := 132) rfl rfl rfl h dX8_ends_18 (fun h => ?_)
    refine V_imul (pc := 19) C dX8_ends_19 ?_
    refine V_aload_n (pc := 20) C dX8_ends_20 rfl 0 rfl ?_
    refine V_getF (pc := 21) C hT f1_X8_33 g1011 dX8_ends_21 ?_
    refine V_iload_n (pc := 24) C dX8_ends_24 rfl 1 rfl ?_
    refine V_mld (pc := 25) C hT tb1_arr (n := 100) (c9 := 133) rfl rfl rfl h dX8_ends_25 (fun h => ?_)
    refine V_iadd (pc := 26) C dX8_ends_26 ?_
    refine V_iconst (pc := 27) C (v := (-1)) dX8_ends_27 rfl ?_
    refine V_mst (pc := 28) C hT tb1_arr (n := 1440) (c9 := 127) (by decide) rfl rfl rfl h dX8_ends_28 (fun h => V_nx fun S2 e9 => ?_)
    replace h := h S2 e9; clear e9
    refine V_aload_n (pc := 29) C dX8_ends_29 rfl 0 rfl ?_
    refine V_aload_n (pc := 30) C dX8_ends_30 rfl 0 rfl ?_
    refine V_getF (pc := 31) C hT f1_X8_32 g1010 dX8_ends_31 ?_
    refine V_iload_n (pc := 34) C dX8_ends_34 rfl 1 rfl ?_
    refine V_mld (pc := 35) C hT tb1_arr (n := 100) (c9 := 132) rfl rfl rfl h dX8_ends_35 (fun h => ?_)
    refine V_aload_n (pc := 36) C dX8_ends_36 rfl 0 rfl ?_
    refine V_getF (pc := 37) C hT f1_X8_33 g1011 dX8_ends_37 ?_
    refine V_iload_n (pc := 40) C dX8_ends_40 rfl 1 rfl ?_
    refine V_mld (pc := 41) C hT tb1_arr (n := 100) (c9 := 133) rfl rfl rfl h dX8_ends_41 (fun h => ?_)
    refine V_callV (pc := 42) C (ct_X8_frees hT hl h) g1194 g1196 g41 g1197 g64 ⟨by decide, by decide, pl_X8_frees⟩ (enc_ne63 (by decide)) (ct_obj hT rfl (by decide)) rfl ⟨by decide, by decide⟩ (rest := []) rfl (le8 rfl) dX8_ends_42 (fun v4 S3 h => ?_) (fun k9 S9 hk h => VX_out C htab hk (h.2 (by omega)))
    replace h := h.1 rfl
    refine V_st (st' := [Value.int v4]) rfl ?_
    exact V_iret (pc := 45) C hr rfl h dX8_ends_45
theorem pl_X8_passes : (parseMethodDescriptor yX8_passes.desc).map (fun d => d.parameters.length) = some 0 := by decide +kernel
def w_X8_passes_170 (k126 : Int32 → Sg → Prop) (Q : Nat → Int32 → Sg → Prop) (x1 : Int32) (S : Sg) : Prop := k126 (x1 + 1) S
theorem k_X8_passes_170 (hT : xT X = tb1) (hl : l.stackTraces = false) (C : Cn X k0 p l R s m meth c cX8_passes RX8 2 5 92) (hr : meth.sig.returnType = none) (hnm : meth.name = yX8_passes.name) (htab : ∀ x ∈ c.exceptionTable.toList, False) {k126 : Int32 → Sg → Prop} (hk126 : ∀ {x1 : Int32} {S : Sg}, k126 x1 S → V X p l e R s m args below meth c 2 (QM X below args s S0 ad0 rvV Qa) S0 ad0 S 126 [(0, Value.ref (enc 12 0)), (1, Value.int x1)] []) {x1 : Int32} {S : Sg} (h : w_X8_passes_170 k126 Qa x1 S) : V X p l e R s m args below meth c 2 (QM X below args s S0 ad0 rvV Qa) S0 ad0 S 170 [(0, Value.ref (enc 12 0)), (1, Value.int x1)] [] := by
  refine V_iinc (pc := 170) C (a := 1) (v := x1 + 1) dX8_passes_170 rfl rfl (by decide) rfl ?_
  refine V_goto (pc := 173) (tgt := 126) C dX8_passes_173 (by decide) ?_
  refine V_sub [1, 0] rfl ?_
  exact hk126 h
def w_X8_passes_126  (Q : Nat → Int32 → Sg → Prop) : Nat → Int32 → Sg → Prop
  | 0, _, _ => False
  | n + 1, x1, S => (((S.1 321 0) ≤ x1 → Q 0 0 S) ∧ (¬ (S.1 321 0) ≤ x1 → (vp_in x1 30 ∧ (((S.1 125 (nt x1)) = 0 → (vp_in x1 30 ∧ (((S.1 300 0) < (S.1 124 (nt x1)) → w_X8_passes_170 (fun x1 S => w_X8_passes_126  Q n x1 S) Q x1 S) ∧ (¬ (S.1 300 0) < (S.1 124 (nt x1)) → (vp_in x1 30 ∧ (∀ S1, S1 = su S 125 (nt x1) 1 → (vp_in x1 30 ∧ (∀ S2, S2 = su S1 128 (nt x1) 0 → w_X8_passes_170 (fun x1 S => w_X8_passes_126  Q n x1 S) Q x1 S2)))))))) ∧ (¬ (S.1 125 (nt x1)) = 0 → w_X8_passes_170 (fun x1 S => w_X8_passes_126  Q n x1 S) Q x1 S)))))
theorem k_X8_passes_126 (hT : xT X = tb1) (hl : l.stackTraces = false) (C : Cn X k0 p l R s m meth c cX8_passes RX8 2 5 92) (hr : meth.sig.returnType = none) (hnm : meth.name = yX8_passes.name) (htab : ∀ x ∈ c.exceptionTable.toList, False)  : ∀ n {x1 : Int32} {S : Sg}, w_X8_passes_126  Qa n x1 S → V X p l e R s m args below meth c 2 (QM X below args s S0 ad0 rvV Qa) S0 ad0 S 126 [(0, Value.ref (enc 12 0)), (1, Value.int x1)] [] := by
  intro n
  induction n with
  | zero => intro x1 S h; exact h.elim
  | succ n ih =>
    intro x1 S h
    refine V_iload_n (pc := 126) C dX8_passes_126 rfl 1 rfl ?_
    refine V_aload_n (pc := 127) C dX8_passes_127 rfl 0 rfl ?_
    refine V_getI (pc := 128) C hT f1_X8_21 g999 dX8_passes_128 ?_
    refine V_icmp_ge (pc := 131) (tgt := 176) C dX8_passes_131 (by decide) h (fun h => ?_) (fun h => ?_)
    · exact V_vret (pc := 176) C hr rfl h dX8_passes_176
    · refine V_aload_n (pc := 134) C dX8_passes_134 rfl 0 rfl ?_
      refine V_getF (pc := 135) C hT f1_X8_25 g1003 dX8_passes_135 ?_
      refine V_iload_n (pc := 138) C dX8_passes_138 rfl 1 rfl ?_
      refine V_mld (pc := 139) C hT tb1_arr (n := 30) (c9 := 125) rfl rfl rfl h dX8_passes_139 (fun h => ?_)
      refine V_if_ne (pc := 140) (tgt := 170) C dX8_passes_140 (by decide) h (fun h => ?_) (fun h => ?_)
      · refine V_sub [0, 1] rfl ?_
        exact k_X8_passes_170 hT hl C hr hnm htab (fun h => ih h) h
      · refine V_aload_n (pc := 143) C dX8_passes_143 rfl 0 rfl ?_
        refine V_getF (pc := 144) C hT f1_X8_24 g1002 dX8_passes_144 ?_
        refine V_iload_n (pc := 147) C dX8_passes_147 rfl 1 rfl ?_
        refine V_mld (pc := 148) C hT tb1_arr (n := 30) (c9 := 124) rfl rfl rfl h dX8_passes_148 (fun h => ?_)
        refine V_aload_n (pc := 149) C dX8_passes_149 rfl 0 rfl ?_
        refine V_getI (pc := 150) C hT f1_X8_0 g978 dX8_passes_150 ?_
        refine V_icmp_gt (pc := 153) (tgt := 170) C dX8_passes_153 (by decide) h (fun h => ?_) (fun h => ?_)
        · refine V_sub [0, 1] rfl ?_
          exact k_X8_passes_170 hT hl C hr hnm htab (fun h => ih h) h
        · refine V_aload_n (pc := 156) C dX8_passes_156 rfl 0 rfl ?_
          refine V_getF (pc := 157) C hT f1_X8_25 g1003 dX8_passes_157 ?_
          refine V_iload_n (pc := 160) C dX8_passes_160 rfl 1 rfl ?_
          refine V_iconst (pc := 161) C (v := 1) dX8_passes_161 rfl ?_
          refine V_mst (pc := 162) C hT tb1_arr (n := 30) (c9 := 125) (by decide) rfl rfl rfl h dX8_passes_162 (fun h => V_nx fun S1 e9 => ?_)
          replace h := h S1 e9; clear e9
          refine V_aload_n (pc := 163) C dX8_passes_163 rfl 0 rfl ?_
          refine V_getF (pc := 164) C hT f1_X8_28 g1006 dX8_passes_164 ?_
          refine V_iload_n (pc := 167) C dX8_passes_167 rfl 1 rfl ?_
          refine V_iconst (pc := 168) C (v := 0) dX8_passes_168 rfl ?_
          refine V_mst (pc := 169) C hT tb1_arr (n := 30) (c9 := 128) (by decide) rfl rfl rfl h dX8_passes_169 (fun h => V_nx fun S2 e9 => ?_)
          replace h := h S2 e9; clear e9
          refine V_sub [0, 1] rfl ?_
          exact k_X8_passes_170 hT hl C hr hnm htab (fun h => ih h) h
def w_X8_passes_118 (k56 : Int32 → Sg → Prop) (Q : Nat → Int32 → Sg → Prop) (x1 : Int32) (S : Sg) : Prop := k56 (x1 + 1) S
theorem k_X8_passes_118 (hT : xT X = tb1) (hl : l.stackTraces = false) (C : Cn X k0 p l R s m meth c cX8_passes RX8 2 5 92) (hr : meth.sig.returnType = none) (hnm : meth.name = yX8_passes.name) (htab : ∀ x ∈ c.exceptionTable.toList, False) {k56 : Int32 → Sg → Prop} (hk56 : ∀ {x1 : Int32} {S : Sg}, k56 x1 S → V X p l e R s m args below meth c 2 (QM X below args s S0 ad0 rvV Qa) S0 ad0 S 56 [(0, Value.ref (enc 12 0)), (1, Value.int x1)] []) {x1 : Int32} {S : Sg} (h : w_X8_passes_118 k56 Qa x1 S) : V X p l e R s m args below meth c 2 (QM X below args s S0 ad0 rvV Qa) S0 ad0 S 118 [(0, Value.ref (enc 12 0)), (1, Value.int x1)] [] := by
  refine V_iinc (pc := 118) C (a := 1) (v := x1 + 1) dX8_passes_118 rfl rfl (by decide) rfl ?_
  refine V_goto (pc := 121) (tgt := 56) C dX8_passes_121 (by decide) ?_
  refine V_sub [1, 0] rfl ?_
  exact hk56 h
def w_X8_passes_56  (Q : Nat → Int32 → Sg → Prop) : Nat → Int32 → Sg → Prop
  | 0, _, _ => False
  | n + 1, x1, S => (((S.1 321 0) ≤ x1 → ∃ n9, w_X8_passes_126  Q n9 0 S) ∧ (¬ (S.1 321 0) ≤ x1 → (vp_in x1 30 ∧ (((S.1 125 (nt x1)) = 1 → (w_X8_end x1 S (fun k5 v4 S3 => (k5 = 0 → (((S3.1 300 0) < v4 → w_X8_passes_118 (fun x1 S => w_X8_passes_56  Q n x1 S) Q x1 S3) ∧ (¬ (S3.1 300 0) < v4 → (vp_in x1 30 ∧ (∀ S6, S6 = su S3 125 (nt x1) 2 → (vp_in x1 30 ∧ (vp_in (S6.1 123 (nt x1)) 4 ∧ (vp_in x1 30 ∧ (vp_in (S6.1 122 (nt x1)) 8 ∧ (vp_in (S6.1 123 (nt x1)) 4 ∧ (∀ S7, S7 = su S6 105 (nt (S6.1 123 (nt x1))) ((S6.1 105 (nt (S6.1 123 (nt x1)))) + (S6.1 108 (nt (S6.1 122 (nt x1))))) → w_X8_passes_118 (fun x1 S => w_X8_passes_56  Q n x1 S) Q x1 S7))))))))))) ∧ (¬ k5 = 0 → Q k5 0 S3)))) ∧ (¬ (S.1 125 (nt x1)) = 1 → w_X8_passes_118 (fun x1 S => w_X8_passes_56  Q n x1 S) Q x1 S)))))
theorem k_X8_passes_56 (hT : xT X = tb1) (hl : l.stackTraces = false) (C : Cn X k0 p l R s m meth c cX8_passes RX8 2 5 92) (hr : meth.sig.returnType = none) (hnm : meth.name = yX8_passes.name) (htab : ∀ x ∈ c.exceptionTable.toList, False)  : ∀ n {x1 : Int32} {S : Sg}, w_X8_passes_56  Qa n x1 S → V X p l e R s m args below meth c 2 (QM X below args s S0 ad0 rvV Qa) S0 ad0 S 56 [(0, Value.ref (enc 12 0)), (1, Value.int x1)] [] := by
  intro n
  induction n with
  | zero => intro x1 S h; exact h.elim
  | succ n ih =>
    intro x1 S h
    refine V_iload_n (pc := 56) C dX8_passes_56 rfl 1 rfl ?_
    refine V_aload_n (pc := 57) C dX8_passes_57 rfl 0 rfl ?_
    refine V_getI (pc := 58) C hT f1_X8_21 g999 dX8_passes_58 ?_
    refine V_icmp_ge (pc := 61) (tgt := 124) C dX8_passes_61 (by decide) h (fun h => ?_) (fun h => ?_)
    · refine V_iconst (pc := 124) C (v := 0) dX8_passes_124 rfl ?_
      refine V_istore_n (pc := 125) C dX8_passes_125 rfl (by decide) rfl ?_
      refine V_sub [1, 0] rfl ?_
      obtain ⟨n9, h⟩ := h
      exact k_X8_passes_126 hT hl C hr hnm htab  n9 h
    · refine V_aload_n (pc := 64) C dX8_passes_64 rfl 0 rfl ?_
      refine V_getF (pc := 65) C hT f1_X8_25 g1003 dX8_passes_65 ?_
      refine V_iload_n (pc := 68) C dX8_passes_68 rfl 1 rfl ?_
      refine V_mld (pc := 69) C hT tb1_arr (n := 30) (c9 := 125) rfl rfl rfl h dX8_passes_69 (fun h => ?_)
      refine V_iconst (pc := 70) C (v := 1) dX8_passes_70 rfl ?_
      refine V_icmp_ne (pc := 71) (tgt := 118) C dX8_passes_71 (by decide) h (fun h => ?_) (fun h => ?_)
      · refine V_sub [0, 1] rfl ?_
        exact k_X8_passes_118 hT hl C hr hnm htab (fun h => ih h) h
      · refine V_aload_n (pc := 74) C dX8_passes_74 rfl 0 rfl ?_
        refine V_iload_n (pc := 75) C dX8_passes_75 rfl 1 rfl ?_
        refine V_callV (pc := 76) C (ct_X8_end hT hl h) g1166 g1168 g37 g1169 g64 ⟨by decide, by decide, pl_X8_end⟩ (enc_ne63 (by decide)) (ct_obj hT rfl (by decide)) rfl ⟨by decide, by decide⟩ (rest := []) rfl (le8 rfl) dX8_passes_76 (fun v4 S3 h => ?_) (fun k9 S9 hk h => VX_out C htab hk (h.2 (by omega)))
        replace h := h.1 rfl
        refine V_st (st' := [Value.int v4]) rfl ?_
        refine V_aload_n (pc := 79) C dX8_passes_79 rfl 0 rfl ?_
        refine V_getI (pc := 80) C hT f1_X8_0 g978 dX8_passes_80 ?_
        refine V_icmp_gt (pc := 83) (tgt := 118) C dX8_passes_83 (by decide) h (fun h => ?_) (fun h => ?_)
        · refine V_sub [0, 1] rfl ?_
          exact k_X8_passes_118 hT hl C hr hnm htab (fun h => ih h) h
        · refine V_aload_n (pc := 86) C dX8_passes_86 rfl 0 rfl ?_
          refine V_getF (pc := 87) C hT f1_X8_25 g1003 dX8_passes_87 ?_
          refine V_iload_n (pc := 90) C dX8_passes_90 rfl 1 rfl ?_
          refine V_iconst (pc := 91) C (v := 2) dX8_passes_91 rfl ?_
          refine V_mst (pc := 92) C hT tb1_arr (n := 30) (c9 := 125) (by decide) rfl rfl rfl h dX8_passes_92 (fun h => V_nx fun S6 e9 => ?_)
          replace h := h S6 e9; clear e9
          refine V_aload_n (pc := 93) C dX8_passes_93 rfl 0 rfl ?_
          refine V_getF (pc := 94) C hT f1_X8_5 g983 dX8_passes_94 ?_
          refine V_aload_n (pc := 97) C dX8_passes_97 rfl 0 rfl ?_
          refine V_getF (pc := 98) C hT f1_X8_23 g1001 dX8_passes_98 ?_
          refine V_iload_n (pc := 101) C dX8_passes_101 rfl 1 rfl ?_
          refine V_mld (pc := 102) C hT tb1_arr (n := 30) (c9 := 123) rfl rfl rfl h dX8_passes_102 (fun h => ?_)
          refine V_dup2 (pc := 103) C dX8_passes_103 rfl rfl ?_
          refine V_mld (pc := 104) C hT tb1_arr (n := 4) (c9 := 105) rfl rfl rfl h dX8_passes_104 (fun h => ?_)
          refine V_aload_n (pc := 105) C dX8_passes_105 rfl 0 rfl ?_
          refine V_getF (pc := 106) C hT f1_X8_8 g986 dX8_passes_106 ?_
          refine V_aload_n (pc := 109) C dX8_passes_109 rfl 0 rfl ?_
          refine V_getF (pc := 110) C hT f1_X8_22 g1000 dX8_passes_110 ?_
          refine V_iload_n (pc := 113) C dX8_passes_113 rfl 1 rfl ?_
          refine V_mld (pc := 114) C hT tb1_arr (n := 30) (c9 := 122) rfl rfl rfl h dX8_passes_114 (fun h => ?_)
          refine V_mld (pc := 115) C hT tb1_arr (n := 8) (c9 := 108) rfl rfl rfl h dX8_passes_115 (fun h => ?_)
          refine V_iadd (pc := 116) C dX8_passes_116 ?_
          refine V_mst (pc := 117) C hT tb1_arr (n := 4) (c9 := 105) (by decide) rfl rfl rfl h dX8_passes_117 (fun h => V_nx fun S7 e9 => ?_)
          replace h := h S7 e9; clear e9
          refine V_sub [0, 1] rfl ?_
          exact k_X8_passes_118 hT hl C hr hnm htab (fun h => ih h) h
def w_X8_passes_48 (k12 : Int32 → Sg → Prop) (Q : Nat → Int32 → Sg → Prop) (x1 : Int32) (S : Sg) : Prop := k12 (x1 + 1) S
theorem k_X8_passes_48 (hT : xT X = tb1) (hl : l.stackTraces = false) (C : Cn X k0 p l R s m meth c cX8_passes RX8 2 5 92) (hr : meth.sig.returnType = none) (hnm : meth.name = yX8_passes.name) (htab : ∀ x ∈ c.exceptionTable.toList, False) {k12 : Int32 → Sg → Prop} (hk12 : ∀ {x1 : Int32} {S : Sg}, k12 x1 S → V X p l e R s m args below meth c 2 (QM X below args s S0 ad0 rvV Qa) S0 ad0 S 12 [(0, Value.ref (enc 12 0)), (1, Value.int x1)] []) {x1 : Int32} {S : Sg} (h : w_X8_passes_48 k12 Qa x1 S) : V X p l e R s m args below meth c 2 (QM X below args s S0 ad0 rvV Qa) S0 ad0 S 48 [(0, Value.ref (enc 12 0)), (1, Value.int x1)] [] := by
  refine V_iinc (pc := 48) C (a := 1) (v := x1 + 1) dX8_passes_48 rfl rfl (by decide) rfl ?_
  refine V_goto (pc := 51) (tgt := 12) C dX8_passes_51 (by decide) ?_
  refine V_sub [1, 0] rfl ?_
  exact hk12 h
def w_X8_passes_12  (Q : Nat → Int32 → Sg → Prop) : Nat → Int32 → Sg → Prop
  | 0, _, _ => False
  | n + 1, x1, S => (((S.1 331 0) ≤ x1 → ∃ n9, w_X8_passes_56  Q n9 0 S) ∧ (¬ (S.1 331 0) ≤ x1 → (vp_in x1 100 ∧ (((S.1 135 (nt x1)) = 0 → (vp_in x1 100 ∧ (((S.1 300 0) < (S.1 134 (nt x1)) → w_X8_passes_48 (fun x1 S => w_X8_passes_12  Q n x1 S) Q x1 S) ∧ (¬ (S.1 300 0) < (S.1 134 (nt x1)) → (w_X8_ends x1 S (fun k10 v9 S8 => (k10 = 0 → w_X8_passes_48 (fun x1 S => w_X8_passes_12  Q n x1 S) Q x1 S8) ∧ (¬ k10 = 0 → Q k10 0 S8))))))) ∧ (¬ (S.1 135 (nt x1)) = 0 → w_X8_passes_48 (fun x1 S => w_X8_passes_12  Q n x1 S) Q x1 S)))))
theorem k_X8_passes_12 (hT : xT X = tb1) (hl : l.stackTraces = false) (C : Cn X k0 p l R s m meth c cX8_passes RX8 2 5 92) (hr : meth.sig.returnType = none) (hnm : meth.name = yX8_passes.name) (htab : ∀ x ∈ c.exceptionTable.toList, False)  : ∀ n {x1 : Int32} {S : Sg}, w_X8_passes_12  Qa n x1 S → V X p l e R s m args below meth c 2 (QM X below args s S0 ad0 rvV Qa) S0 ad0 S 12 [(0, Value.ref (enc 12 0)), (1, Value.int x1)] [] := by
  intro n
  induction n with
  | zero => intro x1 S h; exact h.elim
  | succ n ih =>
    intro x1 S h
    refine V_iload_n (pc := 12) C dX8_passes_12 rfl 1 rfl ?_
    refine V_aload_n (pc := 13) C dX8_passes_13 rfl 0 rfl ?_
    refine V_getI (pc := 14) C hT f1_X8_31 g1009 dX8_passes_14 ?_
    refine V_icmp_ge (pc := 17) (tgt := 54) C dX8_passes_17 (by decide) h (fun h => ?_) (fun h => ?_)
    · refine V_iconst (pc := 54) C (v := 0) dX8_passes_54 rfl ?_
      refine V_istore_n (pc := 55) C dX8_passes_55 rfl (by decide) rfl ?_
      refine V_sub [1, 0] rfl ?_
      obtain ⟨n9, h⟩ := h
      exact k_X8_passes_56 hT hl C hr hnm htab  n9 h
    · refine V_aload_n (pc := 20) C dX8_passes_20 rfl 0 rfl ?_
      refine V_getF (pc := 21) C hT f1_X8_35 g1013 dX8_passes_21 ?_
      refine V_iload_n (pc := 24) C dX8_passes_24 rfl 1 rfl ?_
      refine V_mldZ (pc := 25) C hT tb1_arr (n := 100) (c9 := 135) rfl rfl rfl h dX8_passes_25 (fun h => ?_)
      refine V_if_ne (pc := 26) (tgt := 48) C dX8_passes_26 (by decide) h (fun h => ?_) (fun h => ?_)
      · refine V_sub [0, 1] rfl ?_
        exact k_X8_passes_48 hT hl C hr hnm htab (fun h => ih h) h
      · refine V_aload_n (pc := 29) C dX8_passes_29 rfl 0 rfl ?_
        refine V_getF (pc := 30) C hT f1_X8_34 g1012 dX8_passes_30 ?_
        refine V_iload_n (pc := 33) C dX8_passes_33 rfl 1 rfl ?_
        refine V_mld (pc := 34) C hT tb1_arr (n := 100) (c9 := 134) rfl rfl rfl h dX8_passes_34 (fun h => ?_)
        refine V_aload_n (pc := 35) C dX8_passes_35 rfl 0 rfl ?_
        refine V_getI (pc := 36) C hT f1_X8_0 g978 dX8_passes_36 ?_
        refine V_icmp_gt (pc := 39) (tgt := 48) C dX8_passes_39 (by decide) h (fun h => ?_) (fun h => ?_)
        · refine V_sub [0, 1] rfl ?_
          exact k_X8_passes_48 hT hl C hr hnm htab (fun h => ih h) h
        · refine V_aload_n (pc := 42) C dX8_passes_42 rfl 0 rfl ?_
          refine V_iload_n (pc := 43) C dX8_passes_43 rfl 1 rfl ?_
          refine V_callV (pc := 44) C (ct_X8_ends hT hl h) g1190 g1192 g40 g1193 g64 ⟨by decide, by decide, pl_X8_ends⟩ (enc_ne63 (by decide)) (ct_obj hT rfl (by decide)) rfl ⟨by decide, by decide⟩ (rest := []) rfl (le8 rfl) dX8_passes_44 (fun v9 S8 h => ?_) (fun k9 S9 hk h => VX_out C htab hk (h.2 (by omega)))
          replace h := h.1 rfl
          refine V_st (st' := [Value.int v9]) rfl ?_
          refine V_pop (pc := 47) C dX8_passes_47 rfl ?_
          refine V_sub [0, 1] rfl ?_
          exact k_X8_passes_48 hT hl C hr hnm htab (fun h => ih h) h
def w_X8_passes  (S : Sg) (Q : Nat → Int32 → Sg → Prop) : Prop := (∀ S11, S11 = su S 300 0 ((S.1 300 0) + 1) → ∃ n9, w_X8_passes_12  Q n9 0 S11)
theorem ct_X8_passes (hT : xT X = tb1) (hl : l.stackTraces = false)  {S : Sg} (h : w_X8_passes  S Qa) : CT X k0 l yX8_passes cX8_passes 2 none 5 92 [Value.ref (enc 12 0)] rvV S Qa :=
  CT_ofV (own := RX8) (by decide +kernel) (le8 rfl) rfl hl fun p e R s m args below meth c ad0 C hr hnm htab => by
    refine V_aload_n (pc := 0) C dX8_passes_0 rfl 0 rfl ?_
    refine V_dup (pc := 1) C dX8_passes_1 rfl ?_
    refine V_getI (pc := 2) C hT f1_X8_0 g978 dX8_passes_2 ?_
    refine V_iconst (pc := 5) C (v := 1) dX8_passes_5 rfl ?_
    refine V_iadd (pc := 6) C dX8_passes_6 ?_
    refine V_putI (pc := 7) C hT tb1_ok f1_X8_0 (by unfold lc; decide) g978 (Or.inl rfl) (Or.inl rfl) dX8_passes_7 (V_nx fun S11 e9 => ?_)
    replace h := h S11 e9; clear e9
    refine V_iconst (pc := 10) C (v := 0) dX8_passes_10 rfl ?_
    refine V_istore_n (pc := 11) C dX8_passes_11 rfl (by decide) rfl ?_
    refine V_sub [1, 0] rfl ?_
    obtain ⟨n9, h⟩ := h
    exact k_X8_passes_12 hT hl C hr hnm htab  n9 h
theorem pl_X8_pass : (parseMethodDescriptor yX8_pass.desc).map (fun d => d.parameters.length) = some 1 := by decide +kernel
def w_X8_pass_42  (Q : Nat → Int32 → Sg → Prop) : Nat → Int32 → Int32 → Sg → Prop
  | 0, _, _, _ => False
  | n + 1, x1, x2, S => ((x1 ≤ x2 → Q 0 (S.1 300 0) S) ∧ (¬ x1 ≤ x2 → (w_X8_passes  S (fun k3 v2 S1 => (k3 = 0 → w_X8_pass_42  Q n x1 (x2 + 1) S1) ∧ (¬ k3 = 0 → Q k3 0 S1)))))
theorem k_X8_pass_42 (hT : xT X = tb1) (hl : l.stackTraces = false) (C : Cn X k0 p l R s m meth c cX8_pass RX8 3 6 113) (hr : meth.sig.returnType = (some .int)) (hnm : meth.name = yX8_pass.name) (htab : ∀ x ∈ c.exceptionTable.toList, False)  : ∀ n {x1 : Int32} {x2 : Int32} {S : Sg}, w_X8_pass_42  Qa n x1 x2 S → V X p l e R s m args below meth c 3 (QM X below args s S0 ad0 rvI Qa) S0 ad0 S 42 [(0, Value.ref (enc 12 0)), (1, Value.int x1), (2, Value.int x2)] [] := by
  intro n
  induction n with
  | zero => intro x1 x2 S h; exact h.elim
  | succ n ih =>
    intro x1 x2 S h
    refine V_iload_n (pc := 42) C dX8_pass_42 rfl 2 rfl ?_
    refine V_iload_n (pc := 43) C dX8_pass_43 rfl 1 rfl ?_
    refine V_icmp_ge (pc := 44) (tgt := 57) C dX8_pass_44 (by decide) h (fun h => ?_) (fun h => ?_)
    · refine V_aload_n (pc := 57) C dX8_pass_57 rfl 0 rfl ?_
      refine V_getI (pc := 58) C hT f1_X8_0 g978 dX8_pass_58 ?_
      exact V_iret (pc := 61) C hr rfl h dX8_pass_61
    · refine V_aload_n (pc := 47) C dX8_pass_47 rfl 0 rfl ?_
      refine V_callV (pc := 48) C (ct_X8_passes hT hl h) g1186 g1188 g39 g1189 g64 ⟨by decide, by decide, pl_X8_passes⟩ (enc_ne63 (by decide)) (ct_obj hT rfl (by decide)) rfl ⟨by decide, by decide⟩ (rest := []) rfl (le8 rfl) dX8_pass_48 (fun v2 S1 h => ?_) (fun k9 S9 hk h => VX_out C htab hk (h.2 (by omega)))
      replace h := h.1 rfl
      refine V_st (st' := []) rfl ?_
      refine V_iinc (pc := 51) C (a := 2) (v := x2 + 1) dX8_pass_51 rfl rfl (by decide) rfl ?_
      refine V_goto (pc := 54) (tgt := 42) C dX8_pass_54 (by decide) ?_
      refine V_sub [1, 2, 0] rfl ?_
      exact ih h
def w_X8_pass_32  (Q : Nat → Int32 → Sg → Prop) (x1 : Int32) (y0 : Int32) (S : Sg) : Prop := (w_X8_fails y0 S (fun k6 v5 S4 => (k6 = 0 → ((v5 = 0 → ∃ n9, w_X8_pass_42  Q n9 x1 0 S4) ∧ (¬ v5 = 0 → Q 0 0 S4))) ∧ (¬ k6 = 0 → Q k6 0 S4)))
theorem k_X8_pass_32 (hT : xT X = tb1) (hl : l.stackTraces = false) (C : Cn X k0 p l R s m meth c cX8_pass RX8 3 6 113) (hr : meth.sig.returnType = (some .int)) (hnm : meth.name = yX8_pass.name) (htab : ∀ x ∈ c.exceptionTable.toList, False)  {x1 : Int32} {y0 : Int32} {S : Sg} (h : w_X8_pass_32  Qa x1 y0 S) : V X p l e R s m args below meth c 3 (QM X below args s S0 ad0 rvI Qa) S0 ad0 S 32 [(0, Value.ref (enc 12 0)), (1, Value.int x1)] [Value.int y0, Value.ref (enc 12 0)] := by
  refine V_callV (pc := 32) C (ct_X8_fails hT hl h) g1120 g1122 g32 g1123 g64 ⟨by decide, by decide, pl_X8_fails⟩ (enc_ne63 (by decide)) (ct_obj hT rfl (by decide)) rfl ⟨by decide, by decide⟩ (rest := []) rfl (le8 rfl) dX8_pass_32 (fun v5 S4 h => ?_) (fun k9 S9 hk h => VX_out C htab hk (h.2 (by omega)))
  replace h := h.1 rfl
  refine V_st (st' := [Value.int v5]) rfl ?_
  refine V_if_eq (pc := 35) (tgt := 40) C dX8_pass_35 (by decide) h (fun h => ?_) (fun h => ?_)
  · refine V_iconst (pc := 40) C (v := 0) dX8_pass_40 rfl ?_
    refine V_istore_n (pc := 41) C dX8_pass_41 rfl (by decide) rfl ?_
    refine V_sub [1, 2, 0] rfl ?_
    obtain ⟨n9, h⟩ := h
    exact k_X8_pass_42 hT hl C hr hnm htab  n9 h
  · refine V_iconst (pc := 38) C (v := 0) dX8_pass_38 rfl ?_
    exact V_iret (pc := 39) C hr rfl h dX8_pass_39
def w_X8_pass (a1 : Int32) (S : Sg) (Q : Nat → Int32 → Sg → Prop) : Prop := (w_X8_isIn a1 1 5000 S (fun k9 v8 S7 => (k9 = 0 → ((v8 = 0 → w_X8_pass_32  Q a1 1 S7) ∧ (¬ v8 = 0 → ((((S7.1 300 0) + a1) ≤ 100000 → w_X8_pass_32  Q a1 0 S7) ∧ (¬ ((S7.1 300 0) + a1) ≤ 100000 → w_X8_pass_32  Q a1 2 S7))))) ∧ (¬ k9 = 0 → Q k9 0 S7)))
theorem ct_X8_pass (hT : xT X = tb1) (hl : l.stackTraces = false) {a1 : Int32} {S : Sg} (h : w_X8_pass a1 S Qa) : CT X k0 l yX8_pass cX8_pass 3 (some .int) 6 113 [Value.ref (enc 12 0), Value.int a1] rvI S Qa :=
  CT_ofV (own := RX8) (by decide +kernel) (le8 rfl) rfl hl fun p e R s m args below meth c ad0 C hr hnm htab => by
    refine V_aload_n (pc := 0) C dX8_pass_0 rfl 0 rfl ?_
    refine V_iload_n (pc := 1) C dX8_pass_1 rfl 1 rfl ?_
    refine V_iconst (pc := 2) C (v := 1) dX8_pass_2 rfl ?_
    refine V_sipush (pc := 3) C (v := 5000) dX8_pass_3 rfl ?_
    refine V_callS (pc := 6) C (ct_X8_isIn hT hl h) g1117 g1118 g1119 g64 ⟨by decide, by decide, pl_X8_isIn⟩ ⟨by decide, by decide⟩ (rest := [Value.ref (enc 12 0)]) rfl (le8 rfl) dX8_pass_6 (fun v8 S7 h => ?_) (fun k9 S9 hk h => VX_out C htab hk (h.2 (by omega)))
    replace h := h.1 rfl
    refine V_st (st' := [Value.int v8, Value.ref (enc 12 0)]) rfl ?_
    refine V_if_ne (pc := 9) (tgt := 16) C dX8_pass_9 (by decide) h (fun h => ?_) (fun h => ?_)
    · refine V_aload_n (pc := 16) C dX8_pass_16 rfl 0 rfl ?_
      refine V_getI (pc := 17) C hT f1_X8_0 g978 dX8_pass_17 ?_
      refine V_iload_n (pc := 20) C dX8_pass_20 rfl 1 rfl ?_
      refine V_iadd (pc := 21) C dX8_pass_21 ?_
      refine V_ldc (pc := 22) C g1132 dX8_pass_22 ?_
      refine V_icmp_le (pc := 24) (tgt := 31) C dX8_pass_24 (by decide) h (fun h => ?_) (fun h => ?_)
      · refine V_iconst (pc := 31) C (v := 0) dX8_pass_31 rfl ?_
        refine V_sub [0, 1] rfl ?_
        exact k_X8_pass_32 hT hl C hr hnm htab  h
      · refine V_iconst (pc := 27) C (v := 2) dX8_pass_27 rfl ?_
        refine V_goto (pc := 28) (tgt := 32) C dX8_pass_28 (by decide) ?_
        refine V_sub [0, 1] rfl ?_
        exact k_X8_pass_32 hT hl C hr hnm htab  h
    · refine V_iconst (pc := 12) C (v := 1) dX8_pass_12 rfl ?_
      refine V_goto (pc := 13) (tgt := 32) C dX8_pass_13 (by decide) ?_
      refine V_sub [0, 1] rfl ?_
      exact k_X8_pass_32 hT hl C hr hnm htab  h
theorem pl_X8_isSeat : (parseMethodDescriptor yX8_isSeat.desc).map (fun d => d.parameters.length) = some 3 := by decide +kernel
def w_X8_isSeat (a1 : Int32) (a2 : Int32) (a3 : Int32) (S : Sg) (Q : Nat → Int32 → Sg → Prop) : Prop := (w_X8_isShow a1 S (fun k3 v2 S1 => (k3 = 0 → ((v2 = 0 → Q 0 0 S1) ∧ (¬ v2 = 0 → (vp_in a1 30 ∧ (vp_in (S1.1 123 (nt a1)) 4 ∧ (w_X8_isIn a2 0 ((S1.1 103 (nt (S1.1 123 (nt a1)))) - 1) S1 (fun k6 v5 S4 => (k6 = 0 → ((v5 = 0 → Q 0 0 S4) ∧ (¬ v5 = 0 → (vp_in a1 30 ∧ (vp_in (S4.1 123 (nt a1)) 4 ∧ (w_X8_isIn a3 0 ((S4.1 104 (nt (S4.1 123 (nt a1)))) - 1) S4 (fun k9 v8 S7 => (k9 = 0 → ((v8 = 0 → Q 0 0 S7) ∧ (¬ v8 = 0 → Q 0 1 S7))) ∧ (¬ k9 = 0 → Q k9 0 S7)))))))) ∧ (¬ k6 = 0 → Q k6 0 S4)))))))) ∧ (¬ k3 = 0 → Q k3 0 S1)))
theorem ct_X8_isSeat (hT : xT X = tb1) (hl : l.stackTraces = false) {a1 : Int32} {a2 : Int32} {a3 : Int32} {S : Sg} (h : w_X8_isSeat a1 a2 a3 S Qa) : CT X k0 l yX8_isSeat cX8_isSeat 4 (some .boolean) 3 43 [Value.ref (enc 12 0), Value.int a1, Value.int a2, Value.int a3] rvI S Qa :=
  CT_ofV (own := RX8) (by decide +kernel) (le8 rfl) rfl hl fun p e R s m args below meth c ad0 C hr hnm htab => by
    refine V_aload_n (pc := 0) C dX8_isSeat_0 rfl 0 rfl ?_
    refine V_iload_n (pc := 1) C dX8_isSeat_1 rfl 1 rfl ?_
    refine V_callV (pc := 2) C (ct_X8_isShow hT hl h) g1174 g1176 g38 g1177 g64 ⟨by decide, by decide, pl_X8_isShow⟩ (enc_ne63 (by decide)) (ct_obj hT rfl (by decide)) rfl ⟨by decide, by decide⟩ (rest := []) rfl (le8 rfl) dX8_isSeat_2 (fun v2 S1 h => ?_) (fun k9 S9 hk h => VX_out C htab hk (h.2 (by omega)))
    replace h := h.1 rfl
    refine V_st (st' := [Value.int v2]) rfl ?_
    refine V_if_eq (pc := 5) (tgt := 54) C dX8_isSeat_5 (by decide) h (fun h => ?_) (fun h => ?_)
    · refine V_iconst (pc := 54) C (v := 0) dX8_isSeat_54 rfl ?_
      exact V_zret (pc := 55) C hr (by decide) rfl h dX8_isSeat_55
    · refine V_iload_n (pc := 8) C dX8_isSeat_8 rfl 2 rfl ?_
      refine V_iconst (pc := 9) C (v := 0) dX8_isSeat_9 rfl ?_
      refine V_aload_n (pc := 10) C dX8_isSeat_10 rfl 0 rfl ?_
      refine V_getF (pc := 11) C hT f1_X8_3 g981 dX8_isSeat_11 ?_
      refine V_aload_n (pc := 14) C dX8_isSeat_14 rfl 0 rfl ?_
      refine V_getF (pc := 15) C hT f1_X8_23 g1001 dX8_isSeat_15 ?_
      refine V_iload_n (pc := 18) C dX8_isSeat_18 rfl 1 rfl ?_
      refine V_mld (pc := 19) C hT tb1_arr (n := 30) (c9 := 123) rfl rfl rfl h dX8_isSeat_19 (fun h => ?_)
      refine V_mld (pc := 20) C hT tb1_arr (n := 4) (c9 := 103) rfl rfl rfl h dX8_isSeat_20 (fun h => ?_)
      refine V_iconst (pc := 21) C (v := 1) dX8_isSeat_21 rfl ?_
      refine V_isub (pc := 22) C dX8_isSeat_22 ?_
      refine V_callS (pc := 23) C (ct_X8_isIn hT hl h) g1117 g1118 g1119 g64 ⟨by decide, by decide, pl_X8_isIn⟩ ⟨by decide, by decide⟩ (rest := []) rfl (le8 rfl) dX8_isSeat_23 (fun v5 S4 h => ?_) (fun k9 S9 hk h => VX_out C htab hk (h.2 (by omega)))
      replace h := h.1 rfl
      refine V_st (st' := [Value.int v5]) rfl ?_
      refine V_if_eq (pc := 26) (tgt := 54) C dX8_isSeat_26 (by decide) h (fun h => ?_) (fun h => ?_)
      · refine V_iconst (pc := 54) C (v := 0) dX8_isSeat_54 rfl ?_
        exact V_zret (pc := 55) C hr (by decide) rfl h dX8_isSeat_55
      · refine V_iload_n (pc := 29) C dX8_isSeat_29 rfl 3 rfl ?_
        refine V_iconst (pc := 30) C (v := 0) dX8_isSeat_30 rfl ?_
        refine V_aload_n (pc := 31) C dX8_isSeat_31 rfl 0 rfl ?_
        refine V_getF (pc := 32) C hT f1_X8_4 g982 dX8_isSeat_32 ?_
        refine V_aload_n (pc := 35) C dX8_isSeat_35 rfl 0 rfl ?_
        refine V_getF (pc := 36) C hT f1_X8_23 g1001 dX8_isSeat_36 ?_
        refine V_iload_n (pc := 39) C dX8_isSeat_39 rfl 1 rfl ?_
        refine V_mld (pc := 40) C hT tb1_arr (n := 30) (c9 := 123) rfl rfl rfl h dX8_isSeat_40 (fun h => ?_)
        refine V_mld (pc := 41) C hT tb1_arr (n := 4) (c9 := 104) rfl rfl rfl h dX8_isSeat_41 (fun h => ?_)
        refine V_iconst (pc := 42) C (v := 1) dX8_isSeat_42 rfl ?_
        refine V_isub (pc := 43) C dX8_isSeat_43 ?_
        refine V_callS (pc := 44) C (ct_X8_isIn hT hl h) g1117 g1118 g1119 g64 ⟨by decide, by decide, pl_X8_isIn⟩ ⟨by decide, by decide⟩ (rest := []) rfl (le8 rfl) dX8_isSeat_44 (fun v8 S7 h => ?_) (fun k9 S9 hk h => VX_out C htab hk (h.2 (by omega)))
        replace h := h.1 rfl
        refine V_st (st' := [Value.int v8]) rfl ?_
        refine V_if_eq (pc := 47) (tgt := 54) C dX8_isSeat_47 (by decide) h (fun h => ?_) (fun h => ?_)
        · refine V_iconst (pc := 54) C (v := 0) dX8_isSeat_54 rfl ?_
          exact V_zret (pc := 55) C hr (by decide) rfl h dX8_isSeat_55
        · refine V_iconst (pc := 50) C (v := 1) dX8_isSeat_50 rfl ?_
          refine V_goto (pc := 51) (tgt := 55) C dX8_isSeat_51 (by decide) ?_
          exact V_zret (pc := 55) C hr (by decide) rfl h dX8_isSeat_55
theorem pl_X8_seatOf : (parseMethodDescriptor yX8_seatOf.desc).map (fun d => d.parameters.length) = some 3 := by decide +kernel
def w_X8_seatOf (a1 : Int32) (a2 : Int32) (a3 : Int32) (S : Sg) (Q : Nat → Int32 → Sg → Prop) : Prop := (vp_in a1 30 ∧ (vp_in (S.1 123 (nt a1)) 4 ∧ Q 0 (((S.1 104 (nt (S.1 123 (nt a1)))) * a2) + a3) S))
theorem ct_X8_seatOf (hT : xT X = tb1) (hl : l.stackTraces = false) {a1 : Int32} {a2 : Int32} {a3 : Int32} {S : Sg} (h : w_X8_seatOf a1 a2 a3 S Qa) : CT X k0 l yX8_seatOf cX8_seatOf 4 (some .int) 1 0 [Value.ref (enc 12 0), Value.int a1, Value.int a2, Value.int a3] rvI S Qa :=
  CT_ofV (own := RX8) (by decide +kernel) (le8 rfl) rfl hl fun p e R s m args below meth c ad0 C hr hnm htab => by
    refine V_aload_n (pc := 0) C dX8_seatOf_0 rfl 0 rfl ?_
    refine V_getF (pc := 1) C hT f1_X8_4 g982 dX8_seatOf_1 ?_
    refine V_aload_n (pc := 4) C dX8_seatOf_4 rfl 0 rfl ?_
    refine V_getF (pc := 5) C hT f1_X8_23 g1001 dX8_seatOf_5 ?_
    refine V_iload_n (pc := 8) C dX8_seatOf_8 rfl 1 rfl ?_
    refine V_mld (pc := 9) C hT tb1_arr (n := 30) (c9 := 123) rfl rfl rfl h dX8_seatOf_9 (fun h => ?_)
    refine V_mld (pc := 10) C hT tb1_arr (n := 4) (c9 := 104) rfl rfl rfl h dX8_seatOf_10 (fun h => ?_)
    refine V_iload_n (pc := 11) C dX8_seatOf_11 rfl 2 rfl ?_
    refine V_imul (pc := 12) C dX8_seatOf_12 ?_
    refine V_iload_n (pc := 13) C dX8_seatOf_13 rfl 3 rfl ?_
    refine V_iadd (pc := 14) C dX8_seatOf_14 ?_
    exact V_iret (pc := 15) C hr rfl h dX8_seatOf_15
theorem pl_X8_isFree : (parseMethodDescriptor yX8_isFree.desc).map (fun d => d.parameters.length) = some 2 := by decide +kernel
def w_X8_isFree (a1 : Int32) (a2 : Int32) (S : Sg) (Q : Nat → Int32 → Sg → Prop) : Prop := (vp_in ((48 * a1) + a2) 1440 ∧ (((S.1 126 (nt ((48 * a1) + a2))) = (-1) → (vp_in ((48 * a1) + a2) 1440 ∧ (((S.1 127 (nt ((48 * a1) + a2))) = (-1) → Q 0 1 S) ∧ (¬ (S.1 127 (nt ((48 * a1) + a2))) = (-1) → Q 0 0 S)))) ∧ (¬ (S.1 126 (nt ((48 * a1) + a2))) = (-1) → Q 0 0 S)))
theorem ct_X8_isFree (hT : xT X = tb1) (hl : l.stackTraces = false) {a1 : Int32} {a2 : Int32} {S : Sg} (h : w_X8_isFree a1 a2 S Qa) : CT X k0 l yX8_isFree cX8_isFree 3 (some .boolean) 1 0 [Value.ref (enc 12 0), Value.int a1, Value.int a2] rvI S Qa :=
  CT_ofV (own := RX8) (by decide +kernel) (le8 rfl) rfl hl fun p e R s m args below meth c ad0 C hr hnm htab => by
    refine V_aload_n (pc := 0) C dX8_isFree_0 rfl 0 rfl ?_
    refine V_getF (pc := 1) C hT f1_X8_26 g1004 dX8_isFree_1 ?_
    refine V_bipush (pc := 4) C (v := 48) dX8_isFree_4 rfl ?_
    refine V_iload_n (pc := 6) C dX8_isFree_6 rfl 1 rfl ?_
    refine V_imul (pc := 7) C dX8_isFree_7 ?_
    refine V_iload_n (pc := 8) C dX8_isFree_8 rfl 2 rfl ?_
    refine V_iadd (pc := 9) C dX8_isFree_9 ?_
    refine V_mld (pc := 10) C hT tb1_arr (n := 1440) (c9 := 126) rfl rfl rfl h dX8_isFree_10 (fun h => ?_)
    refine V_iconst (pc := 11) C (v := (-1)) dX8_isFree_11 rfl ?_
    refine V_icmp_ne (pc := 12) (tgt := 34) C dX8_isFree_12 (by decide) h (fun h => ?_) (fun h => ?_)
    · refine V_iconst (pc := 34) C (v := 0) dX8_isFree_34 rfl ?_
      exact V_zret (pc := 35) C hr (by decide) rfl h dX8_isFree_35
    · refine V_aload_n (pc := 15) C dX8_isFree_15 rfl 0 rfl ?_
      refine V_getF (pc := 16) C hT f1_X8_27 g1005 dX8_isFree_16 ?_
      refine V_bipush (pc := 19) C (v := 48) dX8_isFree_19 rfl ?_
      refine V_iload_n (pc := 21) C dX8_isFree_21 rfl 1 rfl ?_
      refine V_imul (pc := 22) C dX8_isFree_22 ?_
      refine V_iload_n (pc := 23) C dX8_isFree_23 rfl 2 rfl ?_
      refine V_iadd (pc := 24) C dX8_isFree_24 ?_
      refine V_mld (pc := 25) C hT tb1_arr (n := 1440) (c9 := 127) rfl rfl rfl h dX8_isFree_25 (fun h => ?_)
      refine V_iconst (pc := 26) C (v := (-1)) dX8_isFree_26 rfl ?_
      refine V_icmp_ne (pc := 27) (tgt := 34) C dX8_isFree_27 (by decide) h (fun h => ?_) (fun h => ?_)
      · refine V_iconst (pc := 34) C (v := 0) dX8_isFree_34 rfl ?_
        exact V_zret (pc := 35) C hr (by decide) rfl h dX8_isFree_35
      · refine V_iconst (pc := 30) C (v := 1) dX8_isFree_30 rfl ?_
        refine V_goto (pc := 31) (tgt := 35) C dX8_isFree_31 (by decide) ?_
        exact V_zret (pc := 35) C hr (by decide) rfl h dX8_isFree_35
theorem pl_X8_hold : (parseMethodDescriptor yX8_hold.desc).map (fun d => d.parameters.length) = some 4 := by decide +kernel
def w_X8_hold_168  (Q : Nat → Int32 → Sg → Prop) (x1 : Int32) (x8 : Int32) (y0 : Int32) (y1 : Int32) (S : Sg) : Prop := (vp_in y1 100 ∧ (∀ S1, S1 = su S 134 (nt y1) y0 → (vp_in x8 100 ∧ (vp_in ((48 * x1) + (S1.1 133 (nt x8))) 1440 ∧ (∀ S2, S2 = su S1 127 (nt ((48 * x1) + (S1.1 133 (nt x8)))) x8 → (∀ S3, S3 = su S2 331 0 ((S2.1 331 0) + 1) → Q 0 x8 S3))))))
theorem k_X8_hold_168 (hT : xT X = tb1) (hl : l.stackTraces = false) (C : Cn X k0 p l R s m meth c cX8_hold RX8 9 4 66) (hr : meth.sig.returnType = (some .int)) (hnm : meth.name = yX8_hold.name) (htab : ∀ x ∈ c.exceptionTable.toList, False)  {x1 : Int32} {x8 : Int32} {y0 : Int32} {y1 : Int32} {S : Sg} (h : w_X8_hold_168  Qa x1 x8 y0 y1 S) : V X p l e R s m args below meth c 9 (QM X below args s S0 ad0 rvI Qa) S0 ad0 S 168 [(0, Value.ref (enc 12 0)), (1, Value.int x1), (8, Value.int x8)] [Value.int y0, Value.int y1, Value.ref (enc 13 34)] := by
  refine V_mst (pc := 168) C hT tb1_arr (n := 100) (c9 := 134) (by decide) rfl rfl rfl h dX8_hold_168 (fun h => V_nx fun S1 e9 => ?_)
  replace h := h S1 e9; clear e9
  refine V_aload_n (pc := 169) C dX8_hold_169 rfl 0 rfl ?_
  refine V_getF (pc := 170) C hT f1_X8_27 g1005 dX8_hold_170 ?_
  refine V_bipush (pc := 173) C (v := 48) dX8_hold_173 rfl ?_
  refine V_iload_n (pc := 175) C dX8_hold_175 rfl 1 rfl ?_
  refine V_imul (pc := 176) C dX8_hold_176 ?_
  refine V_aload_n (pc := 177) C dX8_hold_177 rfl 0 rfl ?_
  refine V_getF (pc := 178) C hT f1_X8_33 g1011 dX8_hold_178 ?_
  refine V_iload (pc := 181) C dX8_hold_181 2 rfl ?_
  refine V_mld (pc := 183) C hT tb1_arr (n := 100) (c9 := 133) rfl rfl rfl h dX8_hold_183 (fun h => ?_)
  refine V_iadd (pc := 184) C dX8_hold_184 ?_
  refine V_iload (pc := 185) C dX8_hold_185 2 rfl ?_
  refine V_mst (pc := 187) C hT tb1_arr (n := 1440) (c9 := 127) (by decide) rfl rfl rfl h dX8_hold_187 (fun h => V_nx fun S2 e9 => ?_)
  replace h := h S2 e9; clear e9
  refine V_aload_n (pc := 188) C dX8_hold_188 rfl 0 rfl ?_
  refine V_dup (pc := 189) C dX8_hold_189 rfl ?_
  refine V_getI (pc := 190) C hT f1_X8_31 g1009 dX8_hold_190 ?_
  refine V_iconst (pc := 193) C (v := 1) dX8_hold_193 rfl ?_
  refine V_iadd (pc := 194) C dX8_hold_194 ?_
  refine V_putI (pc := 195) C hT tb1_ok f1_X8_31 (by unfold lc; decide) g1009 (Or.inl rfl) (Or.inl rfl) dX8_hold_195 (V_nx fun S3 e9 => ?_)
  replace h := h S3 e9; clear e9
  refine V_iload (pc := 198) C dX8_hold_198 2 rfl ?_
  exact V_iret (pc := 200) C hr rfl h dX8_hold_200
def w_X8_hold_94  (Q : Nat → Int32 → Sg → Prop) (x1 : Int32) (x2 : Int32) (x3 : Int32) (x4 : Int32) (y0 : Int32) (S : Sg) : Prop := (w_X8_fails y0 S (fun k6 v5 S4 => (k6 = 0 → ((v5 = 0 → (∀ v7, v7 = S4.1 331 0 → (vp_in v7 100 ∧ (∀ S8, S8 = su S4 132 (nt v7) x1 → (w_X8_seatOf x1 x2 x3 S8 (fun k11 v10 S9 => (k11 = 0 → (vp_in v7 100 ∧ (∀ S12, S12 = su S9 133 (nt v7) v10 → (vp_in x1 30 ∧ (((S12.1 124 (nt x1)) ≤ ((S12.1 300 0) + x4) → (vp_in x1 30 ∧ w_X8_hold_168  Q x1 v7 (S12.1 124 (nt x1)) v7 S12)) ∧ (¬ (S12.1 124 (nt x1)) ≤ ((S12.1 300 0) + x4) → w_X8_hold_168  Q x1 v7 ((S12.1 300 0) + x4) v7 S12)))))) ∧ (¬ k11 = 0 → Q k11 0 S9))))))) ∧ (¬ v5 = 0 → Q 0 0 S4))) ∧ (¬ k6 = 0 → Q k6 0 S4)))
theorem k_X8_hold_94 (hT : xT X = tb1) (hl : l.stackTraces = false) (C : Cn X k0 p l R s m meth c cX8_hold RX8 9 4 66) (hr : meth.sig.returnType = (some .int)) (hnm : meth.name = yX8_hold.name) (htab : ∀ x ∈ c.exceptionTable.toList, False)  {x1 : Int32} {x2 : Int32} {x3 : Int32} {x4 : Int32} {y0 : Int32} {S : Sg} (h : w_X8_hold_94  Qa x1 x2 x3 x4 y0 S) : V X p l e R s m args below meth c 9 (QM X below args s S0 ad0 rvI Qa) S0 ad0 S 94 [(0, Value.ref (enc 12 0)), (1, Value.int x1), (2, Value.int x2), (3, Value.int x3), (4, Value.int x4)] [Value.int y0, Value.ref (enc 12 0)] := by
  refine V_callV (pc := 94) C (ct_X8_fails hT hl h) g1120 g1122 g32 g1123 g64 ⟨by decide, by decide, pl_X8_fails⟩ (enc_ne63 (by decide)) (ct_obj hT rfl (by decide)) rfl ⟨by decide, by decide⟩ (rest := []) rfl (le8 rfl) dX8_hold_94 (fun v5 S4 h => ?_) (fun k9 S9 hk h => VX_out C htab hk (h.2 (by omega)))
  replace h := h.1 rfl
  refine V_st (st' := [Value.int v5]) rfl ?_
  refine V_if_eq (pc := 97) (tgt := 102) C dX8_hold_97 (by decide) h (fun h => ?_) (fun h => ?_)
  · refine V_aload_n (pc := 102) C dX8_hold_102 rfl 0 rfl ?_
    refine V_getI (pc := 103) C hT f1_X8_31 g1009 dX8_hold_103 ?_
    refine V_nI fun v7 e9 => ?_
    replace h := h v7 e9; clear e9
    refine V_istore (pc := 106) C dX8_hold_106 (by decide) rfl ?_
    refine V_aload_n (pc := 108) C dX8_hold_108 rfl 1 rfl ?_
    refine V_getF (pc := 109) C hT f1_X8_32 g1010 dX8_hold_109 ?_
    refine V_iload (pc := 112) C dX8_hold_112 0 rfl ?_
    refine V_iload_n (pc := 114) C dX8_hold_114 rfl 2 rfl ?_
    refine V_mst (pc := 115) C hT tb1_arr (n := 100) (c9 := 132) (by decide) rfl rfl rfl h dX8_hold_115 (fun h => V_nx fun S8 e9 => ?_)
    replace h := h S8 e9; clear e9
    refine V_aload_n (pc := 116) C dX8_hold_116 rfl 1 rfl ?_
    refine V_getF (pc := 117) C hT f1_X8_33 g1011 dX8_hold_117 ?_
    refine V_iload (pc := 120) C dX8_hold_120 0 rfl ?_
    refine V_aload_n (pc := 122) C dX8_hold_122 rfl 1 rfl ?_
    refine V_iload_n (pc := 123) C dX8_hold_123 rfl 2 rfl ?_
    refine V_iload_n (pc := 124) C dX8_hold_124 rfl 3 rfl ?_
    refine V_iload_n (pc := 125) C dX8_hold_125 rfl 4 rfl ?_
    refine V_callV (pc := 126) C (ct_X8_seatOf hT hl h) g1214 g1216 g45 g1217 g64 ⟨by decide, by decide, pl_X8_seatOf⟩ (enc_ne63 (by decide)) (ct_obj hT rfl (by decide)) rfl ⟨by decide, by decide⟩ (rest := [Value.int v7, Value.ref (enc 13 33)]) rfl (le8 rfl) dX8_hold_126 (fun v10 S9 h => ?_) (fun k9 S9 hk h => VX_out C htab hk (h.2 (by omega)))
    replace h := h.1 rfl
    refine V_st (st' := [Value.int v10, Value.int v7, Value.ref (enc 13 33)]) rfl ?_
    refine V_mst (pc := 129) C hT tb1_arr (n := 100) (c9 := 133) (by decide) rfl rfl rfl h dX8_hold_129 (fun h => V_nx fun S12 e9 => ?_)
    replace h := h S12 e9; clear e9
    refine V_aload_n (pc := 130) C dX8_hold_130 rfl 1 rfl ?_
    refine V_getF (pc := 131) C hT f1_X8_34 g1012 dX8_hold_131 ?_
    refine V_iload (pc := 134) C dX8_hold_134 0 rfl ?_
    refine V_aload_n (pc := 136) C dX8_hold_136 rfl 1 rfl ?_
    refine V_getI (pc := 137) C hT f1_X8_0 g978 dX8_hold_137 ?_
    refine V_iload (pc := 140) C dX8_hold_140 5 rfl ?_
    refine V_iadd (pc := 142) C dX8_hold_142 ?_
    refine V_aload_n (pc := 143) C dX8_hold_143 rfl 1 rfl ?_
    refine V_getF (pc := 144) C hT f1_X8_24 g1002 dX8_hold_144 ?_
    refine V_iload_n (pc := 147) C dX8_hold_147 rfl 2 rfl ?_
    refine V_mld (pc := 148) C hT tb1_arr (n := 30) (c9 := 124) rfl rfl rfl h dX8_hold_148 (fun h => ?_)
    refine V_icmp_ge (pc := 149) (tgt := 162) C dX8_hold_149 (by decide) h (fun h => ?_) (fun h => ?_)
    · refine V_aload_n (pc := 162) C dX8_hold_162 rfl 1 rfl ?_
      refine V_getF (pc := 163) C hT f1_X8_24 g1002 dX8_hold_163 ?_
      refine V_iload_n (pc := 166) C dX8_hold_166 rfl 2 rfl ?_
      refine V_mld (pc := 167) C hT tb1_arr (n := 30) (c9 := 124) rfl rfl rfl h dX8_hold_167 (fun h => ?_)
      refine V_sub [1, 2, 0] rfl ?_
      exact k_X8_hold_168 hT hl C hr hnm htab  h
    · refine V_aload_n (pc := 152) C dX8_hold_152 rfl 1 rfl ?_
      refine V_getI (pc := 153) C hT f1_X8_0 g978 dX8_hold_153 ?_
      refine V_iload (pc := 156) C dX8_hold_156 5 rfl ?_
      refine V_iadd (pc := 158) C dX8_hold_158 ?_
      refine V_goto (pc := 159) (tgt := 168) C dX8_hold_159 (by decide) ?_
      refine V_sub [1, 2, 0] rfl ?_
      exact k_X8_hold_168 hT hl C hr hnm htab  h
  · refine V_iconst (pc := 100) C (v := 0) dX8_hold_100 rfl ?_
    exact V_iret (pc := 101) C hr rfl h dX8_hold_101
def w_X8_hold_63  (Q : Nat → Int32 → Sg → Prop) (x1 : Int32) (x2 : Int32) (x3 : Int32) (x4 : Int32) (x5 : Int32) (x6 : Int32) (y0 : Int32) (S : Sg) : Prop := ((x5 = 0 → w_X8_hold_94  Q x1 x2 x3 x4 1 S) ∧ (¬ x5 = 0 → ((x6 = 0 → w_X8_hold_94  Q x1 x2 x3 x4 2 S) ∧ (¬ x6 = 0 → ((y0 = 0 → w_X8_hold_94  Q x1 x2 x3 x4 3 S) ∧ (¬ y0 = 0 → w_X8_hold_94  Q x1 x2 x3 x4 0 S))))))
theorem k_X8_hold_63 (hT : xT X = tb1) (hl : l.stackTraces = false) (C : Cn X k0 p l R s m meth c cX8_hold RX8 9 4 66) (hr : meth.sig.returnType = (some .int)) (hnm : meth.name = yX8_hold.name) (htab : ∀ x ∈ c.exceptionTable.toList, False)  {x1 : Int32} {x2 : Int32} {x3 : Int32} {x4 : Int32} {x5 : Int32} {x6 : Int32} {y0 : Int32} {S : Sg} (h : w_X8_hold_63  Qa x1 x2 x3 x4 x5 x6 y0 S) : V X p l e R s m args below meth c 9 (QM X below args s S0 ad0 rvI Qa) S0 ad0 S 63 [(0, Value.ref (enc 12 0)), (1, Value.int x1), (2, Value.int x2), (3, Value.int x3), (4, Value.int x4), (5, Value.int x5), (6, Value.int x6)] [Value.int y0] := by
  refine V_istore (pc := 63) C dX8_hold_63 (by decide) rfl ?_
  refine V_aload_n (pc := 65) C dX8_hold_65 rfl 1 rfl ?_
  refine V_iload (pc := 66) C dX8_hold_66 6 rfl ?_
  refine V_if_ne (pc := 68) (tgt := 75) C dX8_hold_68 (by decide) h (fun h => ?_) (fun h => ?_)
  · refine V_iload (pc := 75) C dX8_hold_75 7 rfl ?_
    refine V_if_ne (pc := 77) (tgt := 84) C dX8_hold_77 (by decide) h (fun h => ?_) (fun h => ?_)
    · refine V_iload (pc := 84) C dX8_hold_84 0 rfl ?_
      refine V_if_eq (pc := 86) (tgt := 93) C dX8_hold_86 (by decide) h (fun h => ?_) (fun h => ?_)
      · refine V_iconst (pc := 93) C (v := 3) dX8_hold_93 rfl ?_
        refine V_sub [1, 2, 3, 4, 5] rfl ?_
        exact k_X8_hold_94 hT hl C hr hnm htab  h
      · refine V_iconst (pc := 89) C (v := 0) dX8_hold_89 rfl ?_
        refine V_goto (pc := 90) (tgt := 94) C dX8_hold_90 (by decide) ?_
        refine V_sub [1, 2, 3, 4, 5] rfl ?_
        exact k_X8_hold_94 hT hl C hr hnm htab  h
    · refine V_iconst (pc := 80) C (v := 2) dX8_hold_80 rfl ?_
      refine V_goto (pc := 81) (tgt := 94) C dX8_hold_81 (by decide) ?_
      refine V_sub [1, 2, 3, 4, 5] rfl ?_
      exact k_X8_hold_94 hT hl C hr hnm htab  h
  · refine V_iconst (pc := 71) C (v := 1) dX8_hold_71 rfl ?_
    refine V_goto (pc := 72) (tgt := 94) C dX8_hold_72 (by decide) ?_
    refine V_sub [1, 2, 3, 4, 5] rfl ?_
    exact k_X8_hold_94 hT hl C hr hnm htab  h
def w_X8_hold_62  (Q : Nat → Int32 → Sg → Prop) (x1 : Int32) (x2 : Int32) (x3 : Int32) (x4 : Int32) (x5 : Int32) (x6 : Int32) (S : Sg) : Prop := w_X8_hold_63  Q x1 x2 x3 x4 x5 x6 0 S
theorem k_X8_hold_62 (hT : xT X = tb1) (hl : l.stackTraces = false) (C : Cn X k0 p l R s m meth c cX8_hold RX8 9 4 66) (hr : meth.sig.returnType = (some .int)) (hnm : meth.name = yX8_hold.name) (htab : ∀ x ∈ c.exceptionTable.toList, False)  {x1 : Int32} {x2 : Int32} {x3 : Int32} {x4 : Int32} {x5 : Int32} {x6 : Int32} {S : Sg} (h : w_X8_hold_62  Qa x1 x2 x3 x4 x5 x6 S) : V X p l e R s m args below meth c 9 (QM X below args s S0 ad0 rvI Qa) S0 ad0 S 62 [(0, Value.ref (enc 12 0)), (1, Value.int x1), (2, Value.int x2), (3, Value.int x3), (4, Value.int x4), (5, Value.int x5), (6, Value.int x6)] [] := by
  refine V_iconst (pc := 62) C (v := 0) dX8_hold_62 rfl ?_
  refine V_sub [0, 1, 2, 3, 4, 5, 6] rfl ?_
  exact k_X8_hold_63 hT hl C hr hnm htab  h
def w_X8_hold (a1 : Int32) (a2 : Int32) (a3 : Int32) (a4 : Int32) (S : Sg) (Q : Nat → Int32 → Sg → Prop) : Prop := (w_X8_isSeat a1 a2 a3 S (fun k15 v14 S13 => (k15 = 0 → (w_X8_isIn a4 1 5000 S13 (fun k18 v17 S16 => (k18 = 0 → ((v14 = 0 → w_X8_hold_62  Q a1 a2 a3 a4 v14 v17 S16) ∧ (¬ v14 = 0 → (vp_in a1 30 ∧ (((S16.1 125 (nt a1)) = 0 → (w_X8_seatOf a1 a2 a3 S16 (fun k21 v20 S19 => (k21 = 0 → (w_X8_isFree a1 v20 S19 (fun k24 v23 S22 => (k24 = 0 → ((v23 = 0 → w_X8_hold_62  Q a1 a2 a3 a4 v14 v17 S22) ∧ (¬ v23 = 0 → ((100 ≤ (S22.1 331 0) → w_X8_hold_62  Q a1 a2 a3 a4 v14 v17 S22) ∧ (¬ 100 ≤ (S22.1 331 0) → w_X8_hold_63  Q a1 a2 a3 a4 v14 v17 1 S22))))) ∧ (¬ k24 = 0 → Q k24 0 S22)))) ∧ (¬ k21 = 0 → Q k21 0 S19)))) ∧ (¬ (S16.1 125 (nt a1)) = 0 → w_X8_hold_62  Q a1 a2 a3 a4 v14 v17 S16)))))) ∧ (¬ k18 = 0 → Q k18 0 S16)))) ∧ (¬ k15 = 0 → Q k15 0 S13)))
theorem ct_X8_hold (hT : xT X = tb1) (hl : l.stackTraces = false) {a1 : Int32} {a2 : Int32} {a3 : Int32} {a4 : Int32} {S : Sg} (h : w_X8_hold a1 a2 a3 a4 S Qa) : CT X k0 l yX8_hold cX8_hold 9 (some .int) 4 66 [Value.ref (enc 12 0), Value.int a1, Value.int a2, Value.int a3, Value.int a4] rvI S Qa :=
  CT_ofV (own := RX8) (by decide +kernel) (le8 rfl) rfl hl fun p e R s m args below meth c ad0 C hr hnm htab => by
    refine V_aload_n (pc := 0) C dX8_hold_0 rfl 0 rfl ?_
    refine V_iload_n (pc := 1) C dX8_hold_1 rfl 1 rfl ?_
    refine V_iload_n (pc := 2) C dX8_hold_2 rfl 2 rfl ?_
    refine V_iload_n (pc := 3) C dX8_hold_3 rfl 3 rfl ?_
    refine V_callV (pc := 4) C (ct_X8_isSeat hT hl h) g1210 g1212 g44 g1213 g64 ⟨by decide, by decide, pl_X8_isSeat⟩ (enc_ne63 (by decide)) (ct_obj hT rfl (by decide)) rfl ⟨by decide, by decide⟩ (rest := []) rfl (le8 rfl) dX8_hold_4 (fun v14 S13 h => ?_) (fun k9 S9 hk h => VX_out C htab hk (h.2 (by omega)))
    replace h := h.1 rfl
    refine V_st (st' := [Value.int v14]) rfl ?_
    refine V_istore (pc := 7) C dX8_hold_7 (by decide) rfl ?_
    refine V_iload (pc := 9) C dX8_hold_9 5 rfl ?_
    refine V_iconst (pc := 11) C (v := 1) dX8_hold_11 rfl ?_
    refine V_sipush (pc := 12) C (v := 5000) dX8_hold_12 rfl ?_
    refine V_callS (pc := 15) C (ct_X8_isIn hT hl h) g1117 g1118 g1119 g64 ⟨by decide, by decide, pl_X8_isIn⟩ ⟨by decide, by decide⟩ (rest := []) rfl (le8 rfl) dX8_hold_15 (fun v17 S16 h => ?_) (fun k9 S9 hk h => VX_out C htab hk (h.2 (by omega)))
    replace h := h.1 rfl
    refine V_st (st' := [Value.int v17]) rfl ?_
    refine V_istore (pc := 18) C dX8_hold_18 (by decide) rfl ?_
    refine V_iload (pc := 20) C dX8_hold_20 1 rfl ?_
    refine V_if_eq (pc := 22) (tgt := 62) C dX8_hold_22 (by decide) h (fun h => ?_) (fun h => ?_)
    · refine V_sub [2, 3, 4, 5, 6, 1, 0] rfl ?_
      exact k_X8_hold_62 hT hl C hr hnm htab  h
    · refine V_aload_n (pc := 25) C dX8_hold_25 rfl 2 rfl ?_
      refine V_getF (pc := 26) C hT f1_X8_25 g1003 dX8_hold_26 ?_
      refine V_iload_n (pc := 29) C dX8_hold_29 rfl 3 rfl ?_
      refine V_mld (pc := 30) C hT tb1_arr (n := 30) (c9 := 125) rfl rfl rfl h dX8_hold_30 (fun h => ?_)
      refine V_if_ne (pc := 31) (tgt := 62) C dX8_hold_31 (by decide) h (fun h => ?_) (fun h => ?_)
      · refine V_sub [2, 3, 4, 5, 6, 1, 0] rfl ?_
        exact k_X8_hold_62 hT hl C hr hnm htab  h
      · refine V_aload_n (pc := 34) C dX8_hold_34 rfl 2 rfl ?_
        refine V_iload_n (pc := 35) C dX8_hold_35 rfl 3 rfl ?_
        refine V_aload_n (pc := 36) C dX8_hold_36 rfl 2 rfl ?_
        refine V_iload_n (pc := 37) C dX8_hold_37 rfl 3 rfl ?_
        refine V_iload_n (pc := 38) C dX8_hold_38 rfl 4 rfl ?_
        refine V_iload_n (pc := 39) C dX8_hold_39 rfl 5 rfl ?_
        refine V_callV (pc := 40) C (ct_X8_seatOf hT hl h) g1214 g1216 g45 g1217 g64 ⟨by decide, by decide, pl_X8_seatOf⟩ (enc_ne63 (by decide)) (ct_obj hT rfl (by decide)) rfl ⟨by decide, by decide⟩ (rest := [Value.int a1, Value.ref (enc 12 0)]) rfl (le8 rfl) dX8_hold_40 (fun v20 S19 h => ?_) (fun k9 S9 hk h => VX_out C htab hk (h.2 (by omega)))
        replace h := h.1 rfl
        refine V_st (st' := [Value.int v20, Value.int a1, Value.ref (enc 12 0)]) rfl ?_
        refine V_callV (pc := 43) C (ct_X8_isFree hT hl h) g1218 g1220 g46 g1221 g64 ⟨by decide, by decide, pl_X8_isFree⟩ (enc_ne63 (by decide)) (ct_obj hT rfl (by decide)) rfl ⟨by decide, by decide⟩ (rest := []) rfl (le8 rfl) dX8_hold_43 (fun v23 S22 h => ?_) (fun k9 S9 hk h => VX_out C htab hk (h.2 (by omega)))
        replace h := h.1 rfl
        refine V_st (st' := [Value.int v23]) rfl ?_
        refine V_if_eq (pc := 46) (tgt := 62) C dX8_hold_46 (by decide) h (fun h => ?_) (fun h => ?_)
        · refine V_sub [2, 3, 4, 5, 6, 1, 0] rfl ?_
          exact k_X8_hold_62 hT hl C hr hnm htab  h
        · refine V_aload_n (pc := 49) C dX8_hold_49 rfl 2 rfl ?_
          refine V_getI (pc := 50) C hT f1_X8_31 g1009 dX8_hold_50 ?_
          refine V_bipush (pc := 53) C (v := 100) dX8_hold_53 rfl ?_
          refine V_icmp_ge (pc := 55) (tgt := 62) C dX8_hold_55 (by decide) h (fun h => ?_) (fun h => ?_)
          · refine V_sub [2, 3, 4, 5, 6, 1, 0] rfl ?_
            exact k_X8_hold_62 hT hl C hr hnm htab  h
          · refine V_iconst (pc := 58) C (v := 1) dX8_hold_58 rfl ?_
            refine V_goto (pc := 59) (tgt := 63) C dX8_hold_59 (by decide) ?_
            refine V_sub [2, 3, 4, 5, 6, 1, 0] rfl ?_
            exact k_X8_hold_63 hT hl C hr hnm htab  h
theorem pl_X8_isHold : (parseMethodDescriptor yX8_isHold.desc).map (fun d => d.parameters.length) = some 1 := by decide +kernel
def w_X8_isHold (a1 : Int32) (S : Sg) (Q : Nat → Int32 → Sg → Prop) : Prop := (w_X8_isIn a1 0 ((S.1 331 0) - 1) S (fun k3 v2 S1 => (k3 = 0 → ((v2 = 0 ∨ v2 = 1) ∧ Q 0 v2 S1)) ∧ (¬ k3 = 0 → Q k3 0 S1)))
theorem ct_X8_isHold (hT : xT X = tb1) (hl : l.stackTraces = false) {a1 : Int32} {S : Sg} (h : w_X8_isHold a1 S Qa) : CT X k0 l yX8_isHold cX8_isHold 2 (some .boolean) 2 22 [Value.ref (enc 12 0), Value.int a1] rvI S Qa :=
  CT_ofV (own := RX8) (by decide +kernel) (le8 rfl) rfl hl fun p e R s m args below meth c ad0 C hr hnm htab => by
    refine V_iload_n (pc := 0) C dX8_isHold_0 rfl 1 rfl ?_
    refine V_iconst (pc := 1) C (v := 0) dX8_isHold_1 rfl ?_
    refine V_aload_n (pc := 2) C dX8_isHold_2 rfl 0 rfl ?_
    refine V_getI (pc := 3) C hT f1_X8_31 g1009 dX8_isHold_3 ?_
    refine V_iconst (pc := 6) C (v := 1) dX8_isHold_6 rfl ?_
    refine V_isub (pc := 7) C dX8_isHold_7 ?_
    refine V_callS (pc := 8) C (ct_X8_isIn hT hl h) g1117 g1118 g1119 g64 ⟨by decide, by decide, pl_X8_isIn⟩ ⟨by decide, by decide⟩ (rest := []) rfl (le8 rfl) dX8_isHold_8 (fun v2 S1 h => ?_) (fun k9 S9 hk h => VX_out C htab hk (h.2 (by omega)))
    replace h := h.1 rfl
    refine V_st (st' := [Value.int v2]) rfl ?_
    exact V_zret (pc := 11) C hr h.1 rfl h.2 dX8_isHold_11
end MA
