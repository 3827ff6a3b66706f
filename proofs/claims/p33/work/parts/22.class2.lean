section KB
variable {X : Cx} {p : Program} {l : Launch} {e : Env} {R : Room} {s : State} {m : MethodId} {args : Array Value} {below : List Frame} {meth : Method} {c : Code} {S0 : Sg} {ad0 : Nat → Nat} {Qa : Nat → Int32 → Sg → Prop}
theorem pl_X7_endHolds : (parseMethodDescriptor yX7_endHolds.desc).map (fun d => d.parameters.length) = some 0 := by decide +kernel
def w_X7_endHolds_49 (k2 : Int32 → Sg → Prop) (Q : Nat → Int32 → Sg → Prop) (x1 : Int32) (S : Sg) : Prop := k2 (x1 + 1) S
theorem k_X7_endHolds_49 (hT : xT X = tb1) (hl : l.stackTraces = false) (C : Cn X k0 p l R s m meth c cX7_endHolds RX7 3 11 249) (hr : meth.sig.returnType = none) (hnm : meth.name = yX7_endHolds.name) (htab : ∀ x ∈ c.exceptionTable.toList, False) {k2 : Int32 → Sg → Prop} (hk2 : ∀ {x1 : Int32} {S : Sg}, k2 x1 S → V X p l e R s m args below meth c 3 (QM X below args s S0 ad0 rvV Qa) S0 ad0 S 2 [(0, Value.ref (enc 0 0)), (1, Value.int x1)] []) {x1 : Int32} {S : Sg} (h : w_X7_endHolds_49 k2 Qa x1 S) : V X p l e R s m args below meth c 3 (QM X below args s S0 ad0 rvV Qa) S0 ad0 S 49 [(0, Value.ref (enc 0 0)), (1, Value.int x1)] [] := by
  refine V_iinc (pc := 49) C (a := 1) (v := x1 + 1) dX7_endHolds_49 rfl rfl (by decide) rfl ?_
  refine V_goto (pc := 52) (tgt := 2) C dX7_endHolds_52 (by decide) ?_
  refine V_sub [1, 0] rfl ?_
  exact hk2 h
def w_X7_endHolds_2  (Q : Nat → Int32 → Sg → Prop) : Nat → Int32 → Sg → Prop
  | 0, _, _ => False
  | n + 1, x1, S => (w_size 4 S (fun k3 v2 S1 => (k3 = 0 → ((v2 ≤ x1 → Q 0 0 S1) ∧ (¬ v2 ≤ x1 → (w_get 4 x1 S1 (fun k6 v5 S4 => (k6 = 0 → (((S4.1 63 (nt v5)) = 0 → (((S4.1 62 (nt v5)) = (S4.1 6 0) → (w_X7_endUnbought v5 S4 (fun k9 v8 S7 => (k9 = 0 → w_X7_endHolds_49 (fun x1 S => w_X7_endHolds_2  Q n x1 S) Q x1 S7) ∧ (¬ k9 = 0 → Q k9 0 S7)))) ∧ (¬ (S4.1 62 (nt v5)) = (S4.1 6 0) → w_X7_endHolds_49 (fun x1 S => w_X7_endHolds_2  Q n x1 S) Q x1 S4))) ∧ (¬ (S4.1 63 (nt v5)) = 0 → w_X7_endHolds_49 (fun x1 S => w_X7_endHolds_2  Q n x1 S) Q x1 S4))) ∧ (¬ k6 = 0 → Q k6 0 S4)))))) ∧ (¬ k3 = 0 → Q k3 0 S1)))
theorem k_X7_endHolds_2 (hT : xT X = tb1) (hl : l.stackTraces = false) (C : Cn X k0 p l R s m meth c cX7_endHolds RX7 3 11 249) (hr : meth.sig.returnType = none) (hnm : meth.name = yX7_endHolds.name) (htab : ∀ x ∈ c.exceptionTable.toList, False)  : ∀ n {x1 : Int32} {S : Sg}, w_X7_endHolds_2  Qa n x1 S → V X p l e R s m args below meth c 3 (QM X below args s S0 ad0 rvV Qa) S0 ad0 S 2 [(0, Value.ref (enc 0 0)), (1, Value.int x1)] [] := by
  intro n
  induction n with
  | zero => intro x1 S h; exact h.elim
  | succ n ih =>
    intro x1 S h
    refine V_iload_n (pc := 2) C dX7_endHolds_2 rfl 1 rfl ?_
    refine V_aload_n (pc := 3) C dX7_endHolds_3 rfl 0 rfl ?_
    refine V_getF (pc := 4) C hT f1_X7_4 g94 dX7_endHolds_4 ?_
    refine V_callV (pc := 7) C (ct_size hT hl h) g200 g201 g202 g203 g36 ⟨by decide, by decide, pl_Jx4a65c_size_8abf5⟩ (enc_ne63 (by decide)) (ct_obj hT rfl (by decide)) rfl ⟨by decide, by decide⟩ (rest := [Value.int x1]) rfl (le8 rfl) dX7_endHolds_7 (fun v2 S1 h => ?_) (fun k9 S9 hk h => VX_out C htab hk (h.2 (by omega)))
    replace h := h.1 rfl
    refine V_st (st' := [Value.int v2, Value.int x1]) rfl ?_
    refine V_icmp_ge (pc := 10) (tgt := 55) C dX7_endHolds_10 (by decide) h (fun h => ?_) (fun h => ?_)
    · exact V_vret (pc := 55) C hr rfl h dX7_endHolds_55
    · refine V_aload_n (pc := 13) C dX7_endHolds_13 rfl 0 rfl ?_
      refine V_getF (pc := 14) C hT f1_X7_4 g94 dX7_endHolds_14 ?_
      refine V_iload_n (pc := 17) C dX7_endHolds_17 rfl 1 rfl ?_
      refine V_callV (pc := 18) C (ct_get hT hl (by decide) h) g332 g333 g334 g335 g36 ⟨by decide, by decide, pl_Jx4a65c_get_915e3⟩ (enc_ne63 (by decide)) (ct_obj hT rfl (by decide)) rfl ⟨by decide, by decide⟩ (rest := []) rfl (le8 rfl) dX7_endHolds_18 (fun v5 S4 h => ?_) (fun k9 S9 hk h => VX_out C htab hk (h.2 (by omega)))
      replace h := h.1 rfl
      refine V_st (st' := [Value.ref (enc 7 (nt v5))]) rfl ?_
      refine V_cast (pc := 21) C hT (by decide) rfl rfl g550 dX7_endHolds_21 ?_
      refine V_astore_n (pc := 24) C dX7_endHolds_24 rfl (by decide) rfl ?_
      refine V_aload_n (pc := 25) C dX7_endHolds_25 rfl 0 rfl ?_
      refine V_getI (pc := 26) C hT f1_X2_3 g661 dX7_endHolds_26 ?_
      refine V_if_ne (pc := 29) (tgt := 49) C dX7_endHolds_29 (by decide) h (fun h => ?_) (fun h => ?_)
      · refine V_sub [1, 2] rfl ?_
        exact k_X7_endHolds_49 hT hl C hr hnm htab (fun h => ih h) h
      · refine V_aload_n (pc := 32) C dX7_endHolds_32 rfl 0 rfl ?_
        refine V_getI (pc := 33) C hT f1_X2_2 g659 dX7_endHolds_33 ?_
        refine V_aload_n (pc := 36) C dX7_endHolds_36 rfl 1 rfl ?_
        refine V_getI (pc := 37) C hT f1_X7_6 g96 dX7_endHolds_37 ?_
        refine V_icmp_ne (pc := 40) (tgt := 49) C dX7_endHolds_40 (by decide) h (fun h => ?_) (fun h => ?_)
        · refine V_sub [1, 2] rfl ?_
          exact k_X7_endHolds_49 hT hl C hr hnm htab (fun h => ih h) h
        · refine V_aload_n (pc := 43) C dX7_endHolds_43 rfl 1 rfl ?_
          refine V_aload_n (pc := 44) C dX7_endHolds_44 rfl 0 rfl ?_
          refine V_callV (pc := 45) C (ct_X7_endUnbought hT hl h) g580 g582 g14 g583 g33 ⟨by decide, by decide, pl_X7_endUnbought⟩ (enc_ne63 (by decide)) (ct_obj hT rfl (by decide)) rfl ⟨by decide, by decide⟩ (rest := []) rfl (le8 rfl) dX7_endHolds_45 (fun v8 S7 h => ?_) (fun k9 S9 hk h => VX_out C htab hk (h.2 (by omega)))
          replace h := h.1 rfl
          refine V_st (st' := [Value.int v8]) rfl ?_
          refine V_pop (pc := 48) C dX7_endHolds_48 rfl ?_
          refine V_sub [1, 2] rfl ?_
          exact k_X7_endHolds_49 hT hl C hr hnm htab (fun h => ih h) h
def w_X7_endHolds  (S : Sg) (Q : Nat → Int32 → Sg → Prop) : Prop := ∃ n9, w_X7_endHolds_2  Q n9 0 S
theorem ct_X7_endHolds (hT : xT X = tb1) (hl : l.stackTraces = false)  {S : Sg} (h : w_X7_endHolds  S Qa) : CT X k0 l yX7_endHolds cX7_endHolds 3 none 11 249 [Value.ref (enc 0 0)] rvV S Qa :=
  CT_ofV (own := RX7) (by decide +kernel) (le8 rfl) rfl hl fun p e R s m args below meth c ad0 C hr hnm htab => by
    refine V_iconst (pc := 0) C (v := 0) dX7_endHolds_0 rfl ?_
    refine V_istore_n (pc := 1) C dX7_endHolds_1 rfl (by decide) rfl ?_
    refine V_sub [1, 0] rfl ?_
    obtain ⟨n9, h⟩ := h
    exact k_X7_endHolds_2 hT hl C hr hnm htab  n9 h
theorem pl_X7_endShows : (parseMethodDescriptor yX7_endShows.desc).map (fun d => d.parameters.length) = some 0 := by decide +kernel
def w_X7_endShows_68 (k2 : Int32 → Sg → Prop) (Q : Nat → Int32 → Sg → Prop) (x1 : Int32) (S : Sg) : Prop := k2 (x1 + 1) S
theorem k_X7_endShows_68 (hT : xT X = tb1) (hl : l.stackTraces = false) (C : Cn X k0 p l R s m meth c cX7_endShows RX7 3 4 81) (hr : meth.sig.returnType = none) (hnm : meth.name = yX7_endShows.name) (htab : ∀ x ∈ c.exceptionTable.toList, False) {k2 : Int32 → Sg → Prop} (hk2 : ∀ {x1 : Int32} {S : Sg}, k2 x1 S → V X p l e R s m args below meth c 3 (QM X below args s S0 ad0 rvV Qa) S0 ad0 S 2 [(0, Value.ref (enc 0 0)), (1, Value.int x1)] []) {x1 : Int32} {S : Sg} (h : w_X7_endShows_68 k2 Qa x1 S) : V X p l e R s m args below meth c 3 (QM X below args s S0 ad0 rvV Qa) S0 ad0 S 68 [(0, Value.ref (enc 0 0)), (1, Value.int x1)] [] := by
  refine V_iinc (pc := 68) C (a := 1) (v := x1 + 1) dX7_endShows_68 rfl rfl (by decide) rfl ?_
  refine V_goto (pc := 71) (tgt := 2) C dX7_endShows_71 (by decide) ?_
  refine V_sub [1, 0] rfl ?_
  exact hk2 h
def w_X7_endShows_2  (Q : Nat → Int32 → Sg → Prop) : Nat → Int32 → Sg → Prop
  | 0, _, _ => False
  | n + 1, x1, S => (w_size 3 S (fun k3 v2 S1 => (k3 = 0 → ((v2 ≤ x1 → Q 0 0 S1) ∧ (¬ v2 ≤ x1 → (w_get 3 x1 S1 (fun k6 v5 S4 => (k6 = 0 → (((S4.1 56 (nt v5)) = 1 → (w_X5_end v5 S4 (fun k9 v8 S7 => (k9 = 0 → ((v8 = (S7.1 6 0) → (¬ S7.1 52 (nt v5) < 0 ∧ (¬ S7.1 51 (nt v5) < 0 ∧ (∀ S10, S10 = su S7 23 (nt (S7.1 52 (nt v5))) ((S7.1 23 (nt (S7.1 52 (nt v5)))) + (S7.1 31 (nt (S7.1 51 (nt v5))))) → (∀ S11, S11 = su S10 56 (nt v5) 2 → w_X7_endShows_68 (fun x1 S => w_X7_endShows_2  Q n x1 S) Q x1 S11))))) ∧ (¬ v8 = (S7.1 6 0) → w_X7_endShows_68 (fun x1 S => w_X7_endShows_2  Q n x1 S) Q x1 S7))) ∧ (¬ k9 = 0 → Q k9 0 S7)))) ∧ (¬ (S4.1 56 (nt v5)) = 1 → w_X7_endShows_68 (fun x1 S => w_X7_endShows_2  Q n x1 S) Q x1 S4))) ∧ (¬ k6 = 0 → Q k6 0 S4)))))) ∧ (¬ k3 = 0 → Q k3 0 S1)))
theorem k_X7_endShows_2 (hT : xT X = tb1) (hl : l.stackTraces = false) (C : Cn X k0 p l R s m meth c cX7_endShows RX7 3 4 81) (hr : meth.sig.returnType = none) (hnm : meth.name = yX7_endShows.name) (htab : ∀ x ∈ c.exceptionTable.toList, False)  : ∀ n {x1 : Int32} {S : Sg}, w_X7_endShows_2  Qa n x1 S → V X p l e R s m args below meth c 3 (QM X below args s S0 ad0 rvV Qa) S0 ad0 S 2 [(0, Value.ref (enc 0 0)), (1, Value.int x1)] [] := by
  intro n
  induction n with
  | zero => intro x1 S h; exact h.elim
  | succ n ih =>
    intro x1 S h
    refine V_iload_n (pc := 2) C dX7_endShows_2 rfl 1 rfl ?_
    refine V_aload_n (pc := 3) C dX7_endShows_3 rfl 0 rfl ?_
    refine V_getF (pc := 4) C hT f1_X7_3 g93 dX7_endShows_4 ?_
    refine V_callV (pc := 7) C (ct_size hT hl h) g200 g201 g202 g203 g36 ⟨by decide, by decide, pl_Jx4a65c_size_8abf5⟩ (enc_ne63 (by decide)) (ct_obj hT rfl (by decide)) rfl ⟨by decide, by decide⟩ (rest := [Value.int x1]) rfl (le8 rfl) dX7_endShows_7 (fun v2 S1 h => ?_) (fun k9 S9 hk h => VX_out C htab hk (h.2 (by omega)))
    replace h := h.1 rfl
    refine V_st (st' := [Value.int v2, Value.int x1]) rfl ?_
    refine V_icmp_ge (pc := 10) (tgt := 74) C dX7_endShows_10 (by decide) h (fun h => ?_) (fun h => ?_)
    · exact V_vret (pc := 74) C hr rfl h dX7_endShows_74
    · refine V_aload_n (pc := 13) C dX7_endShows_13 rfl 0 rfl ?_
      refine V_getF (pc := 14) C hT f1_X7_3 g93 dX7_endShows_14 ?_
      refine V_iload_n (pc := 17) C dX7_endShows_17 rfl 1 rfl ?_
      refine V_callV (pc := 18) C (ct_get hT hl (by decide) h) g332 g333 g334 g335 g36 ⟨by decide, by decide, pl_Jx4a65c_get_915e3⟩ (enc_ne63 (by decide)) (ct_obj hT rfl (by decide)) rfl ⟨by decide, by decide⟩ (rest := []) rfl (le8 rfl) dX7_endShows_18 (fun v5 S4 h => ?_) (fun k9 S9 hk h => VX_out C htab hk (h.2 (by omega)))
      replace h := h.1 rfl
      refine V_st (st' := [Value.ref (enc 6 (nt v5))]) rfl ?_
      refine V_cast (pc := 21) C hT (by decide) rfl rfl g451 dX7_endShows_21 ?_
      refine V_astore_n (pc := 24) C dX7_endShows_24 rfl (by decide) rfl ?_
      refine V_aload_n (pc := 25) C dX7_endShows_25 rfl 0 rfl ?_
      refine V_getI (pc := 26) C hT f1_X5_6 g511 dX7_endShows_26 ?_
      refine V_iconst (pc := 29) C (v := 1) dX7_endShows_29 rfl ?_
      refine V_icmp_ne (pc := 30) (tgt := 68) C dX7_endShows_30 (by decide) h (fun h => ?_) (fun h => ?_)
      · refine V_sub [1, 2] rfl ?_
        exact k_X7_endShows_68 hT hl C hr hnm htab (fun h => ih h) h
      · refine V_aload_n (pc := 33) C dX7_endShows_33 rfl 0 rfl ?_
        refine V_callV (pc := 34) C (ct_X5_end hT hl h) g456 g457 g458 g459 g52 ⟨by decide, by decide, pl_X5_end⟩ (enc_ne63 (by decide)) (ct_obj hT rfl (by decide)) rfl ⟨by decide, by decide⟩ (rest := []) rfl (le8 rfl) dX7_endShows_34 (fun v8 S7 h => ?_) (fun k9 S9 hk h => VX_out C htab hk (h.2 (by omega)))
        replace h := h.1 rfl
        refine V_st (st' := [Value.int v8]) rfl ?_
        refine V_aload_n (pc := 37) C dX7_endShows_37 rfl 1 rfl ?_
        refine V_getI (pc := 38) C hT f1_X7_6 g96 dX7_endShows_38 ?_
        refine V_icmp_ne (pc := 41) (tgt := 68) C dX7_endShows_41 (by decide) h (fun h => ?_) (fun h => ?_)
        · refine V_sub [1, 2] rfl ?_
          exact k_X7_endShows_68 hT hl C hr hnm htab (fun h => ih h) h
        · refine V_aload_n (pc := 44) C dX7_endShows_44 rfl 0 rfl ?_
          refine V_getR (pc := 45) C hT f1_X5_2 (by decide) g503 dX7_endShows_45 h (fun h => ?_)
          refine V_dup (pc := 48) C dX7_endShows_48 rfl ?_
          refine V_getI (pc := 49) C hT f1_X1_3 g235 dX7_endShows_49 ?_
          refine V_aload_n (pc := 52) C dX7_endShows_52 rfl 0 rfl ?_
          refine V_getR (pc := 53) C hT f1_X5_1 (by decide) g501 dX7_endShows_53 h (fun h => ?_)
          refine V_getI (pc := 56) C hT f1_X0_1 g362 dX7_endShows_56 ?_
          refine V_iadd (pc := 59) C dX7_endShows_59 ?_
          refine V_putI (pc := 60) C hT tb1_ok f1_X1_3 (by unfold lc; decide) g235 (Or.inl rfl) (Or.inl rfl) dX7_endShows_60 (V_nx fun S10 e9 => ?_)
          replace h := h S10 e9; clear e9
          refine V_aload_n (pc := 63) C dX7_endShows_63 rfl 0 rfl ?_
          refine V_iconst (pc := 64) C (v := 2) dX7_endShows_64 rfl ?_
          refine V_putI (pc := 65) C hT tb1_ok f1_X5_6 (by unfold lc; decide) g511 (Or.inl rfl) (Or.inl rfl) dX7_endShows_65 (V_nx fun S11 e9 => ?_)
          replace h := h S11 e9; clear e9
          refine V_sub [1, 2] rfl ?_
          exact k_X7_endShows_68 hT hl C hr hnm htab (fun h => ih h) h
def w_X7_endShows  (S : Sg) (Q : Nat → Int32 → Sg → Prop) : Prop := ∃ n9, w_X7_endShows_2  Q n9 0 S
theorem ct_X7_endShows (hT : xT X = tb1) (hl : l.stackTraces = false)  {S : Sg} (h : w_X7_endShows  S Qa) : CT X k0 l yX7_endShows cX7_endShows 3 none 4 81 [Value.ref (enc 0 0)] rvV S Qa :=
  CT_ofV (own := RX7) (by decide +kernel) (le8 rfl) rfl hl fun p e R s m args below meth c ad0 C hr hnm htab => by
    refine V_iconst (pc := 0) C (v := 0) dX7_endShows_0 rfl ?_
    refine V_istore_n (pc := 1) C dX7_endShows_1 rfl (by decide) rfl ?_
    refine V_sub [1, 0] rfl ?_
    obtain ⟨n9, h⟩ := h
    exact k_X7_endShows_2 hT hl C hr hnm htab  n9 h
theorem pl_X7_startShows : (parseMethodDescriptor yX7_startShows.desc).map (fun d => d.parameters.length) = some 0 := by decide +kernel
def w_X7_startShows_55 (k2 : Int32 → Sg → Prop) (Q : Nat → Int32 → Sg → Prop) (x1 : Int32) (S : Sg) : Prop := k2 (x1 + 1) S
theorem k_X7_startShows_55 (hT : xT X = tb1) (hl : l.stackTraces = false) (C : Cn X k0 p l R s m meth c cX7_startShows RX7 3 4 81) (hr : meth.sig.returnType = none) (hnm : meth.name = yX7_startShows.name) (htab : ∀ x ∈ c.exceptionTable.toList, False) {k2 : Int32 → Sg → Prop} (hk2 : ∀ {x1 : Int32} {S : Sg}, k2 x1 S → V X p l e R s m args below meth c 3 (QM X below args s S0 ad0 rvV Qa) S0 ad0 S 2 [(0, Value.ref (enc 0 0)), (1, Value.int x1)] []) {x1 : Int32} {S : Sg} (h : w_X7_startShows_55 k2 Qa x1 S) : V X p l e R s m args below meth c 3 (QM X below args s S0 ad0 rvV Qa) S0 ad0 S 55 [(0, Value.ref (enc 0 0)), (1, Value.int x1)] [] := by
  refine V_iinc (pc := 55) C (a := 1) (v := x1 + 1) dX7_startShows_55 rfl rfl (by decide) rfl ?_
  refine V_goto (pc := 58) (tgt := 2) C dX7_startShows_58 (by decide) ?_
  refine V_sub [1, 0] rfl ?_
  exact hk2 h
def w_X7_startShows_2  (Q : Nat → Int32 → Sg → Prop) : Nat → Int32 → Sg → Prop
  | 0, _, _ => False
  | n + 1, x1, S => (w_size 3 S (fun k3 v2 S1 => (k3 = 0 → ((v2 ≤ x1 → Q 0 0 S1) ∧ (¬ v2 ≤ x1 → (w_get 3 x1 S1 (fun k6 v5 S4 => (k6 = 0 → (((S4.1 56 (nt v5)) = 0 → (((S4.1 53 (nt v5)) = (S4.1 6 0) → (¬ S4.1 55 (nt v5) < 0 ∧ (w_X4_clearAway (S4.1 55 (nt v5)) S4 (fun k9 v8 S7 => (k9 = 0 → (∀ S10, S10 = su S7 56 (nt v5) 1 → w_X7_startShows_55 (fun x1 S => w_X7_startShows_2  Q n x1 S) Q x1 S10)) ∧ (¬ k9 = 0 → Q k9 0 S7))))) ∧ (¬ (S4.1 53 (nt v5)) = (S4.1 6 0) → w_X7_startShows_55 (fun x1 S => w_X7_startShows_2  Q n x1 S) Q x1 S4))) ∧ (¬ (S4.1 56 (nt v5)) = 0 → w_X7_startShows_55 (fun x1 S => w_X7_startShows_2  Q n x1 S) Q x1 S4))) ∧ (¬ k6 = 0 → Q k6 0 S4)))))) ∧ (¬ k3 = 0 → Q k3 0 S1)))
theorem k_X7_startShows_2 (hT : xT X = tb1) (hl : l.stackTraces = false) (C : Cn X k0 p l R s m meth c cX7_startShows RX7 3 4 81) (hr : meth.sig.returnType = none) (hnm : meth.name = yX7_startShows.name) (htab : ∀ x ∈ c.exceptionTable.toList, False)  : ∀ n {x1 : Int32} {S : Sg}, w_X7_startShows_2  Qa n x1 S → V X p l e R s m args below meth c 3 (QM X below args s S0 ad0 rvV Qa) S0 ad0 S 2 [(0, Value.ref (enc 0 0)), (1, Value.int x1)] [] := by
  intro n
  induction n with
  | zero => intro x1 S h; exact h.elim
  | succ n ih =>
    intro x1 S h
    refine V_iload_n (pc := 2) C dX7_startShows_2 rfl 1 rfl ?_
    refine V_aload_n (pc := 3) C dX7_startShows_3 rfl 0 rfl ?_
    refine V_getF (pc := 4) C hT f1_X7_3 g93 dX7_startShows_4 ?_
    refine V_callV (pc := 7) C (ct_size hT hl h) g200 g201 g202 g203 g36 ⟨by decide, by decide, pl_Jx4a65c_size_8abf5⟩ (enc_ne63 (by decide)) (ct_obj hT rfl (by decide)) rfl ⟨by decide, by decide⟩ (rest := [Value.int x1]) rfl (le8 rfl) dX7_startShows_7 (fun v2 S1 h => ?_) (fun k9 S9 hk h => VX_out C htab hk (h.2 (by omega)))
    replace h := h.1 rfl
    refine V_st (st' := [Value.int v2, Value.int x1]) rfl ?_
    refine V_icmp_ge (pc := 10) (tgt := 61) C dX7_startShows_10 (by decide) h (fun h => ?_) (fun h => ?_)
    · exact V_vret (pc := 61) C hr rfl h dX7_startShows_61
    · refine V_aload_n (pc := 13) C dX7_startShows_13 rfl 0 rfl ?_
      refine V_getF (pc := 14) C hT f1_X7_3 g93 dX7_startShows_14 ?_
      refine V_iload_n (pc := 17) C dX7_startShows_17 rfl 1 rfl ?_
      refine V_callV (pc := 18) C (ct_get hT hl (by decide) h) g332 g333 g334 g335 g36 ⟨by decide, by decide, pl_Jx4a65c_get_915e3⟩ (enc_ne63 (by decide)) (ct_obj hT rfl (by decide)) rfl ⟨by decide, by decide⟩ (rest := []) rfl (le8 rfl) dX7_startShows_18 (fun v5 S4 h => ?_) (fun k9 S9 hk h => VX_out C htab hk (h.2 (by omega)))
      replace h := h.1 rfl
      refine V_st (st' := [Value.ref (enc 6 (nt v5))]) rfl ?_
      refine V_cast (pc := 21) C hT (by decide) rfl rfl g451 dX7_startShows_21 ?_
      refine V_astore_n (pc := 24) C dX7_startShows_24 rfl (by decide) rfl ?_
      refine V_aload_n (pc := 25) C dX7_startShows_25 rfl 0 rfl ?_
      refine V_getI (pc := 26) C hT f1_X5_6 g511 dX7_startShows_26 ?_
      refine V_if_ne (pc := 29) (tgt := 55) C dX7_startShows_29 (by decide) h (fun h => ?_) (fun h => ?_)
      · refine V_sub [1, 2] rfl ?_
        exact k_X7_startShows_55 hT hl C hr hnm htab (fun h => ih h) h
      · refine V_aload_n (pc := 32) C dX7_startShows_32 rfl 0 rfl ?_
        refine V_getI (pc := 33) C hT f1_X5_3 g505 dX7_startShows_33 ?_
        refine V_aload_n (pc := 36) C dX7_startShows_36 rfl 1 rfl ?_
        refine V_getI (pc := 37) C hT f1_X7_6 g96 dX7_startShows_37 ?_
        refine V_icmp_ne (pc := 40) (tgt := 55) C dX7_startShows_40 (by decide) h (fun h => ?_) (fun h => ?_)
        · refine V_sub [1, 2] rfl ?_
          exact k_X7_startShows_55 hT hl C hr hnm htab (fun h => ih h) h
        · refine V_aload_n (pc := 43) C dX7_startShows_43 rfl 0 rfl ?_
          refine V_getR (pc := 44) C hT f1_X5_5 (by decide) g509 dX7_startShows_44 h (fun h => ?_)
          refine V_callV (pc := 47) C (ct_X4_clearAway hT hl h) g555 g556 g557 g558 g53 ⟨by decide, by decide, pl_X4_clearAway⟩ (enc_ne63 (by decide)) (ct_obj hT rfl (by decide)) rfl ⟨by decide, by decide⟩ (rest := []) rfl (le8 rfl) dX7_startShows_47 (fun v8 S7 h => ?_) (fun k9 S9 hk h => VX_out C htab hk (h.2 (by omega)))
          replace h := h.1 rfl
          refine V_st (st' := []) rfl ?_
          refine V_aload_n (pc := 50) C dX7_startShows_50 rfl 0 rfl ?_
          refine V_iconst (pc := 51) C (v := 1) dX7_startShows_51 rfl ?_
          refine V_putI (pc := 52) C hT tb1_ok f1_X5_6 (by unfold lc; decide) g511 (Or.inl rfl) (Or.inl rfl) dX7_startShows_52 (V_nx fun S10 e9 => ?_)
          replace h := h S10 e9; clear e9
          refine V_sub [1, 2] rfl ?_
          exact k_X7_startShows_55 hT hl C hr hnm htab (fun h => ih h) h
def w_X7_startShows  (S : Sg) (Q : Nat → Int32 → Sg → Prop) : Prop := ∃ n9, w_X7_startShows_2  Q n9 0 S
theorem ct_X7_startShows (hT : xT X = tb1) (hl : l.stackTraces = false)  {S : Sg} (h : w_X7_startShows  S Qa) : CT X k0 l yX7_startShows cX7_startShows 3 none 4 81 [Value.ref (enc 0 0)] rvV S Qa :=
  CT_ofV (own := RX7) (by decide +kernel) (le8 rfl) rfl hl fun p e R s m args below meth c ad0 C hr hnm htab => by
    refine V_iconst (pc := 0) C (v := 0) dX7_startShows_0 rfl ?_
    refine V_istore_n (pc := 1) C dX7_startShows_1 rfl (by decide) rfl ?_
    refine V_sub [1, 0] rfl ?_
    obtain ⟨n9, h⟩ := h
    exact k_X7_startShows_2 hT hl C hr hnm htab  n9 h
theorem pl_X7_pass : (parseMethodDescriptor yX7_pass.desc).map (fun d => d.parameters.length) = some 1 := by decide +kernel
def w_X7_pass_73  (Q : Nat → Int32 → Sg → Prop)  (S : Sg) : Prop := Q 0 (S.1 6 0) S
theorem k_X7_pass_73 (hT : xT X = tb1) (hl : l.stackTraces = false) (C : Cn X k0 p l R s m meth c cX7_pass RX7 4 12 271) (hr : meth.sig.returnType = (some .int)) (hnm : meth.name = yX7_pass.name) (htab : ∀ x ∈ c.exceptionTable.toList, False)   {S : Sg} (h : w_X7_pass_73  Qa  S) : V X p l e R s m args below meth c 4 (QM X below args s S0 ad0 rvI Qa) S0 ad0 S 73 [(0, Value.ref (enc 0 0))] [] := by
  refine V_aload_n (pc := 73) C dX7_pass_73 rfl 0 rfl ?_
  refine V_getI (pc := 74) C hT f1_X7_6 g96 dX7_pass_74 ?_
  exact V_iret (pc := 77) C hr rfl h dX7_pass_77
def w_X7_pass_33  (Q : Nat → Int32 → Sg → Prop) : Nat → Int32 → Int32 → Int32 → Sg → Prop
  | 0, _, _, _, _ => False
  | n + 1, x1, x2, x3, S => ((x1 ≤ x3 → w_X7_pass_73  Q  S) ∧ (¬ x1 ≤ x3 → ((x2 ≤ (S.1 6 0) → w_X7_pass_73  Q  S) ∧ (¬ x2 ≤ (S.1 6 0) → (w_X7_nextChange x2 S (fun k3 v2 S1 => (k3 = 0 → (∀ S4, S4 = su S1 6 0 v2 → (w_X7_endHolds  S4 (fun k7 v6 S5 => (k7 = 0 → (w_X7_endShows  S5 (fun k10 v9 S8 => (k10 = 0 → (w_X7_startShows  S8 (fun k13 v12 S11 => (k13 = 0 → w_X7_pass_33  Q n x1 x2 (x3 + 1) S11) ∧ (¬ k13 = 0 → Q k13 0 S11)))) ∧ (¬ k10 = 0 → Q k10 0 S8)))) ∧ (¬ k7 = 0 → Q k7 0 S5))))) ∧ (¬ k3 = 0 → Q k3 0 S1)))))))
theorem k_X7_pass_33 (hT : xT X = tb1) (hl : l.stackTraces = false) (C : Cn X k0 p l R s m meth c cX7_pass RX7 4 12 271) (hr : meth.sig.returnType = (some .int)) (hnm : meth.name = yX7_pass.name) (htab : ∀ x ∈ c.exceptionTable.toList, False)  : ∀ n {x1 : Int32} {x2 : Int32} {x3 : Int32} {S : Sg}, w_X7_pass_33  Qa n x1 x2 x3 S → V X p l e R s m args below meth c 4 (QM X below args s S0 ad0 rvI Qa) S0 ad0 S 33 [(0, Value.ref (enc 0 0)), (1, Value.int x1), (2, Value.int x2), (3, Value.int x3)] [] := by
  intro n
  induction n with
  | zero => intro x1 x2 x3 S h; exact h.elim
  | succ n ih =>
    intro x1 x2 x3 S h
    refine V_iload_n (pc := 33) C dX7_pass_33 rfl 3 rfl ?_
    refine V_iload_n (pc := 34) C dX7_pass_34 rfl 1 rfl ?_
    refine V_icmp_ge (pc := 35) (tgt := 73) C dX7_pass_35 (by decide) h (fun h => ?_) (fun h => ?_)
    · refine V_sub [0] rfl ?_
      exact k_X7_pass_73 hT hl C hr hnm htab  h
    · refine V_aload_n (pc := 38) C dX7_pass_38 rfl 0 rfl ?_
      refine V_getI (pc := 39) C hT f1_X7_6 g96 dX7_pass_39 ?_
      refine V_iload_n (pc := 42) C dX7_pass_42 rfl 2 rfl ?_
      refine V_icmp_ge (pc := 43) (tgt := 73) C dX7_pass_43 (by decide) h (fun h => ?_) (fun h => ?_)
      · refine V_sub [0] rfl ?_
        exact k_X7_pass_73 hT hl C hr hnm htab  h
      · refine V_aload_n (pc := 46) C dX7_pass_46 rfl 0 rfl ?_
        refine V_aload_n (pc := 47) C dX7_pass_47 rfl 0 rfl ?_
        refine V_iload_n (pc := 48) C dX7_pass_48 rfl 2 rfl ?_
        refine V_callV (pc := 49) C (ct_X7_nextChange hT hl h) g569 g571 g12 g572 g33 ⟨by decide, by decide, pl_X7_nextChange⟩ (enc_ne63 (by decide)) (ct_obj hT rfl (by decide)) rfl ⟨by decide, by decide⟩ (rest := [Value.ref (enc 0 0)]) rfl (le8 rfl) dX7_pass_49 (fun v2 S1 h => ?_) (fun k9 S9 hk h => VX_out C htab hk (h.2 (by omega)))
        replace h := h.1 rfl
        refine V_st (st' := [Value.int v2, Value.ref (enc 0 0)]) rfl ?_
        refine V_putI (pc := 52) C hT tb1_ok f1_X7_6 (by unfold lc; decide) g96 (Or.inl rfl) (Or.inl rfl) dX7_pass_52 (V_nx fun S4 e9 => ?_)
        replace h := h S4 e9; clear e9
        refine V_aload_n (pc := 55) C dX7_pass_55 rfl 0 rfl ?_
        refine V_callV (pc := 56) C (ct_X7_endHolds hT hl h) g576 g578 g13 g579 g33 ⟨by decide, by decide, pl_X7_endHolds⟩ (enc_ne63 (by decide)) (ct_obj hT rfl (by decide)) rfl ⟨by decide, by decide⟩ (rest := []) rfl (le8 rfl) dX7_pass_56 (fun v6 S5 h => ?_) (fun k9 S9 hk h => VX_out C htab hk (h.2 (by omega)))
        replace h := h.1 rfl
        refine V_st (st' := []) rfl ?_
        refine V_aload_n (pc := 59) C dX7_pass_59 rfl 0 rfl ?_
        refine V_callV (pc := 60) C (ct_X7_endShows hT hl h) g627 g629 g17 g630 g33 ⟨by decide, by decide, pl_X7_endShows⟩ (enc_ne63 (by decide)) (ct_obj hT rfl (by decide)) rfl ⟨by decide, by decide⟩ (rest := []) rfl (le8 rfl) dX7_pass_60 (fun v9 S8 h => ?_) (fun k9 S9 hk h => VX_out C htab hk (h.2 (by omega)))
        replace h := h.1 rfl
        refine V_st (st' := []) rfl ?_
        refine V_aload_n (pc := 63) C dX7_pass_63 rfl 0 rfl ?_
        refine V_callV (pc := 64) C (ct_X7_startShows hT hl h) g631 g633 g18 g634 g33 ⟨by decide, by decide, pl_X7_startShows⟩ (enc_ne63 (by decide)) (ct_obj hT rfl (by decide)) rfl ⟨by decide, by decide⟩ (rest := []) rfl (le8 rfl) dX7_pass_64 (fun v12 S11 h => ?_) (fun k9 S9 hk h => VX_out C htab hk (h.2 (by omega)))
        replace h := h.1 rfl
        refine V_st (st' := []) rfl ?_
        refine V_iinc (pc := 67) C (a := 3) (v := x3 + 1) dX7_pass_67 rfl rfl (by decide) rfl ?_
        refine V_goto (pc := 70) (tgt := 33) C dX7_pass_70 (by decide) ?_
        refine V_sub [1, 2, 3, 0] rfl ?_
        exact ih h
def w_X7_pass (a1 : Int32) (S : Sg) (Q : Nat → Int32 → Sg → Prop) : Prop := (w_X7_needWithin a1 1 5000 S (fun k16 v15 S14 => (k16 = 0 → (∀ v17, v17 = (S14.1 6 0) + a1 → ((v17 ≤ 100000 → ∃ n9, w_X7_pass_33  Q n9 a1 v17 0 S14) ∧ (¬ v17 ≤ 100000 → (S14.2.1 + 1 ≤ nB1 ∧ S14.2.2 + 6 ≤ nB2 ∧ Q 2 0 (tS S14)))))) ∧ (¬ k16 = 0 → Q k16 0 S14)))
theorem ct_X7_pass (hT : xT X = tb1) (hl : l.stackTraces = false) {a1 : Int32} {S : Sg} (h : w_X7_pass a1 S Qa) : CT X k0 l yX7_pass cX7_pass 4 (some .int) 12 271 [Value.ref (enc 0 0), Value.int a1] rvI S Qa :=
  CT_ofV (own := RX7) (by decide +kernel) (le8 rfl) rfl hl fun p e R s m args below meth c ad0 C hr hnm htab => by
    refine V_iload_n (pc := 0) C dX7_pass_0 rfl 1 rfl ?_
    refine V_iconst (pc := 1) C (v := 1) dX7_pass_1 rfl ?_
    refine V_sipush (pc := 2) C (v := 5000) dX7_pass_2 rfl ?_
    refine V_callS (pc := 5) C (ct_X7_needWithin hT hl h) g129 g130 g131 g33 ⟨by decide, by decide, pl_X7_needWithin⟩ ⟨by decide, by decide⟩ (rest := []) rfl (le8 rfl) dX7_pass_5 (fun v15 S14 h => ?_) (fun k9 S9 hk h => VX_out C htab hk (h.2 (by omega)))
    replace h := h.1 rfl
    refine V_st (st' := []) rfl ?_
    refine V_aload_n (pc := 8) C dX7_pass_8 rfl 0 rfl ?_
    refine V_getI (pc := 9) C hT f1_X7_6 g96 dX7_pass_9 ?_
    refine V_iload_n (pc := 12) C dX7_pass_12 rfl 1 rfl ?_
    refine V_iadd (pc := 13) C dX7_pass_13 ?_
    refine V_nI fun v17 e9 => ?_
    replace h := h v17 e9; clear e9
    refine V_istore_n (pc := 14) C dX7_pass_14 rfl (by decide) rfl ?_
    refine V_iload_n (pc := 15) C dX7_pass_15 rfl 0 rfl ?_
    refine V_ldc (pc := 16) C g346 dX7_pass_16 ?_
    refine V_icmp_le (pc := 18) (tgt := 31) C dX7_pass_18 (by decide) h (fun h => ?_) (fun h => ?_)
    · refine V_iconst (pc := 31) C (v := 0) dX7_pass_31 rfl ?_
      refine V_istore_n (pc := 32) C dX7_pass_32 rfl (by decide) rfl ?_
      refine V_sub [2, 3, 1, 0] rfl ?_
      obtain ⟨n9, h⟩ := h
      exact k_X7_pass_33 hT hl C hr hnm htab  n9 h
    · exact V_throw (pc := 21) C htab (k9 := 2) (by decide) at_RX7_2 str_RX7_188 ⟨by decide, le8 rfl⟩ dX7_pass_21 dX7_pass_24 dX7_pass_25 dX7_pass_27 dX7_pass_30 h
theorem pl_X7_placeAt : (parseMethodDescriptor yX7_placeAt.desc).map (fun d => d.parameters.length) = some 3 := by decide +kernel
def w_X7_placeAt_30  (Q : Nat → Int32 → Sg → Prop)  (S : Sg) : Prop := (S.2.1 + 1 ≤ nB1 ∧ S.2.2 + 6 ≤ nB2 ∧ Q 3 0 (tS S))
theorem k_X7_placeAt_30 (hT : xT X = tb1) (hl : l.stackTraces = false) (C : Cn X k0 p l R s m meth c cX7_placeAt RX7 3 6 82) (hr : meth.sig.returnType = (some .int)) (hnm : meth.name = yX7_placeAt.name) (htab : ∀ x ∈ c.exceptionTable.toList, False)   {S : Sg} (h : w_X7_placeAt_30  Qa  S) : V X p l e R s m args below meth c 3 (QM X below args s S0 ad0 rvI Qa) S0 ad0 S 30 [] [] := by
  exact V_throwW (pc := 30) C htab (k9 := 3) (by decide) at_RX7_3 str_RX7_366 ⟨by decide, le8 rfl⟩ dX7_placeAt_30 dX7_placeAt_33 dX7_placeAt_34 dX7_placeAt_37 dX7_placeAt_40 h
def w_X7_placeAt (a0 : Int32) (a1 : Int32) (a2 : Int32) (S : Sg) (Q : Nat → Int32 → Sg → Prop) : Prop := ((a1 < 0 → w_X7_placeAt_30  Q  S) ∧ (¬ a1 < 0 → (¬ S.1 52 (nt a0) < 0 ∧ (((S.1 21 (nt (S.1 52 (nt a0)))) ≤ a1 → w_X7_placeAt_30  Q  S) ∧ (¬ (S.1 21 (nt (S.1 52 (nt a0)))) ≤ a1 → ((a2 < 0 → w_X7_placeAt_30  Q  S) ∧ (¬ a2 < 0 → (¬ S.1 52 (nt a0) < 0 ∧ ((a2 < (S.1 22 (nt (S.1 52 (nt a0)))) → (¬ S.1 52 (nt a0) < 0 ∧ Q 0 ((a1 * (S.1 22 (nt (S.1 52 (nt a0))))) + a2) S)) ∧ (¬ a2 < (S.1 22 (nt (S.1 52 (nt a0)))) → w_X7_placeAt_30  Q  S))))))))))
theorem ct_X7_placeAt (hT : xT X = tb1) (hl : l.stackTraces = false) {a0 : Int32} {a1 : Int32} {a2 : Int32} {S : Sg} (h : w_X7_placeAt a0 a1 a2 S Qa) : CT X k0 l yX7_placeAt cX7_placeAt 3 (some .int) 6 82 [Value.ref (enc 6 (nt a0)), Value.int a1, Value.int a2] rvI S Qa :=
  CT_ofV (own := RX7) (by decide +kernel) (le8 rfl) rfl hl fun p e R s m args below meth c ad0 C hr hnm htab => by
    refine V_iload_n (pc := 0) C dX7_placeAt_0 rfl 1 rfl ?_
    refine V_if_lt (pc := 1) (tgt := 30) C dX7_placeAt_1 (by decide) h (fun h => ?_) (fun h => ?_)
    · refine V_sub [] rfl ?_
      exact k_X7_placeAt_30 hT hl C hr hnm htab  h
    · refine V_iload_n (pc := 4) C dX7_placeAt_4 rfl 1 rfl ?_
      refine V_aload_n (pc := 5) C dX7_placeAt_5 rfl 0 rfl ?_
      refine V_getR (pc := 6) C hT f1_X5_2 (by decide) g503 dX7_placeAt_6 h (fun h => ?_)
      refine V_getI (pc := 9) C hT f1_X1_1 g230 dX7_placeAt_9 ?_
      refine V_icmp_ge (pc := 12) (tgt := 30) C dX7_placeAt_12 (by decide) h (fun h => ?_) (fun h => ?_)
      · refine V_sub [] rfl ?_
        exact k_X7_placeAt_30 hT hl C hr hnm htab  h
      · refine V_iload_n (pc := 15) C dX7_placeAt_15 rfl 2 rfl ?_
        refine V_if_lt (pc := 16) (tgt := 30) C dX7_placeAt_16 (by decide) h (fun h => ?_) (fun h => ?_)
        · refine V_sub [] rfl ?_
          exact k_X7_placeAt_30 hT hl C hr hnm htab  h
        · refine V_iload_n (pc := 19) C dX7_placeAt_19 rfl 2 rfl ?_
          refine V_aload_n (pc := 20) C dX7_placeAt_20 rfl 0 rfl ?_
          refine V_getR (pc := 21) C hT f1_X5_2 (by decide) g503 dX7_placeAt_21 h (fun h => ?_)
          refine V_getI (pc := 24) C hT f1_X1_2 g233 dX7_placeAt_24 ?_
          refine V_icmp_lt (pc := 27) (tgt := 41) C dX7_placeAt_27 (by decide) h (fun h => ?_) (fun h => ?_)
          · refine V_iload_n (pc := 41) C dX7_placeAt_41 rfl 1 rfl ?_
            refine V_aload_n (pc := 42) C dX7_placeAt_42 rfl 0 rfl ?_
            refine V_getR (pc := 43) C hT f1_X5_2 (by decide) g503 dX7_placeAt_43 h (fun h => ?_)
            refine V_getI (pc := 46) C hT f1_X1_2 g233 dX7_placeAt_46 ?_
            refine V_imul (pc := 49) C dX7_placeAt_49 ?_
            refine V_iload_n (pc := 50) C dX7_placeAt_50 rfl 2 rfl ?_
            refine V_iadd (pc := 51) C dX7_placeAt_51 ?_
            exact V_iret (pc := 52) C hr rfl h dX7_placeAt_52
          · refine V_sub [] rfl ?_
            exact k_X7_placeAt_30 hT hl C hr hnm htab  h
theorem pl_X7_needFree : (parseMethodDescriptor yX7_needFree.desc).map (fun d => d.parameters.length) = some 2 := by decide +kernel
def w_X7_needFree (a0 : Int32) (a1 : Int32) (S : Sg) (Q : Nat → Int32 → Sg → Prop) : Prop := (w_X7_needPlanned a0 S (fun k3 v2 S1 => (k3 = 0 → (¬ S1.1 54 (nt a0) < 0 ∧ (vp_in a1 (nt (S1.1 58 (nt (S1.1 54 (nt a0))))) ∧ (((S1.1 (1000 + 2 * (nt (S1.1 54 (nt a0)))) (nt a1)) = (-1) → Q 0 0 S1) ∧ (¬ (S1.1 (1000 + 2 * (nt (S1.1 54 (nt a0)))) (nt a1)) = (-1) → (S1.2.1 + 1 ≤ nB1 ∧ S1.2.2 + 6 ≤ nB2 ∧ Q 2 0 (tS S1))))))) ∧ (¬ k3 = 0 → Q k3 0 S1)))
theorem ct_X7_needFree (hT : xT X = tb1) (hl : l.stackTraces = false) {a0 : Int32} {a1 : Int32} {S : Sg} (h : w_X7_needFree a0 a1 S Qa) : CT X k0 l yX7_needFree cX7_needFree 2 none 7 102 [Value.ref (enc 6 (nt a0)), Value.int a1] rvV S Qa :=
  CT_ofV (own := RX7) (by decide +kernel) (le8 rfl) rfl hl fun p e R s m args below meth c ad0 C hr hnm htab => by
    refine V_aload_n (pc := 0) C dX7_needFree_0 rfl 0 rfl ?_
    refine V_callS (pc := 1) C (ct_X7_needPlanned hT hl h) g541 g542 g543 g33 ⟨by decide, by decide, pl_X7_needPlanned⟩ ⟨by decide, by decide⟩ (rest := []) rfl (le8 rfl) dX7_needFree_1 (fun v2 S1 h => ?_) (fun k9 S9 hk h => VX_out C htab hk (h.2 (by omega)))
    replace h := h.1 rfl
    refine V_st (st' := []) rfl ?_
    refine V_aload_n (pc := 4) C dX7_needFree_4 rfl 0 rfl ?_
    refine V_getR (pc := 5) C hT f1_X5_4 (by decide) g507 dX7_needFree_5 h (fun h => ?_)
    refine V_iload_n (pc := 8) C dX7_needFree_8 rfl 1 rfl ?_
    refine V_pld (pc := 9) C hT tb1_arr h dX7_needFree_9 (fun h => ?_)
    refine V_iconst (pc := 10) C (v := (-1)) dX7_needFree_10 rfl ?_
    refine V_icmp_eq (pc := 11) (tgt := 25) C dX7_needFree_11 (by decide) h (fun h => ?_) (fun h => ?_)
    · exact V_vret (pc := 25) C hr rfl h dX7_needFree_25
    · exact V_throwW (pc := 14) C htab (k9 := 2) (by decide) at_RX7_2 str_RX7_347 ⟨by decide, le8 rfl⟩ dX7_needFree_14 dX7_needFree_17 dX7_needFree_18 dX7_needFree_21 dX7_needFree_24 h
theorem pl_X7_hold : (parseMethodDescriptor yX7_hold.desc).map (fun d => d.parameters.length) = some 4 := by decide +kernel
def w_X7_hold (a1 : Int32) (a2 : Int32) (a3 : Int32) (a4 : Int32) (S : Sg) (Q : Nat → Int32 → Sg → Prop) : Prop := (w_X7_showAt a1 S (fun k3 v2 S1 => (k3 = 0 → (w_X7_placeAt v2 a2 a3 S1 (fun k6 v5 S4 => (k6 = 0 → (w_X7_needWithin a4 1 5000 S4 (fun k9 v8 S7 => (k9 = 0 → (w_X7_needFree v2 v5 S7 (fun k12 v11 S10 => (k12 = 0 → (w_size 4 S10 (fun k15 v14 S13 => (k15 = 0 → ((v14 < 100 → (w_size 4 S13 (fun k18 v17 S16 => (k18 = 0 → ((S16.2.1 + 1 ≤ nB1 ∧ S16.2.2 + 4 ≤ nB2) ∧ (∀ v20, v20 = S16.1 10 7 → ∀ S19, S19 = nu S16 7 4 fdHold → (w_J9_min_7cf53 ((S19.1 6 0) + a4) (S19.1 53 (nt v2)) S19 (fun k23 v22 S21 => (k23 = 0 → (w_X2_init v20 v2 v5 v22 S21 (fun k26 v25 S24 => (k26 = 0 → (w_add 4 v20 S24 (fun k29 v28 S27 => (k29 = 0 → (¬ S27.1 54 (nt v2) < 0 ∧ (vp_in v5 (nt (S27.1 58 (nt (S27.1 54 (nt v2))))) ∧ (∀ S30, S30 = su S27 (1000 + 2 * (nt (S27.1 54 (nt v2)))) (nt v5) (1000 + v17) → Q 0 v17 S30)))) ∧ (¬ k29 = 0 → Q k29 0 S27)))) ∧ (¬ k26 = 0 → Q k26 0 S24)))) ∧ (¬ k23 = 0 → Q k23 0 S21)))))) ∧ (¬ k18 = 0 → Q k18 0 S16)))) ∧ (¬ v14 < 100 → (S13.2.1 + 1 ≤ nB1 ∧ S13.2.2 + 6 ≤ nB2 ∧ Q 2 0 (tS S13))))) ∧ (¬ k15 = 0 → Q k15 0 S13)))) ∧ (¬ k12 = 0 → Q k12 0 S10)))) ∧ (¬ k9 = 0 → Q k9 0 S7)))) ∧ (¬ k6 = 0 → Q k6 0 S4)))) ∧ (¬ k3 = 0 → Q k3 0 S1)))
theorem ct_X7_hold (hT : xT X = tb1) (hl : l.stackTraces = false) {a1 : Int32} {a2 : Int32} {a3 : Int32} {a4 : Int32} {S : Sg} (h : w_X7_hold a1 a2 a3 a4 S Qa) : CT X k0 l yX7_hold cX7_hold 8 (some .int) 8 181 [Value.ref (enc 0 0), Value.int a1, Value.int a2, Value.int a3, Value.int a4] rvI S Qa :=
  CT_ofV (own := RX7) (by decide +kernel) (le8 rfl) rfl hl fun p e R s m args below meth c ad0 C hr hnm htab => by
    refine V_aload_n (pc := 0) C dX7_hold_0 rfl 0 rfl ?_
    refine V_iload_n (pc := 1) C dX7_hold_1 rfl 1 rfl ?_
    refine V_callV (pc := 2) C (ct_X7_showAt hT hl h) g536 g538 g11 g539 g33 ⟨by decide, by decide, pl_X7_showAt⟩ (enc_ne63 (by decide)) (ct_obj hT rfl (by decide)) rfl ⟨by decide, by decide⟩ (rest := []) rfl (le8 rfl) dX7_hold_2 (fun v2 S1 h => ?_) (fun k9 S9 hk h => VX_out C htab hk (h.2 (by omega)))
    replace h := h.1 rfl
    refine V_st (st' := [Value.ref (enc 6 (nt v2))]) rfl ?_
    refine V_astore (pc := 5) C dX7_hold_5 (by decide) rfl ?_
    refine V_aload (pc := 7) C dX7_hold_7 0 rfl ?_
    refine V_iload_n (pc := 9) C dX7_hold_9 rfl 3 rfl ?_
    refine V_iload_n (pc := 10) C dX7_hold_10 rfl 4 rfl ?_
    refine V_callS (pc := 11) C (ct_X7_placeAt hT hl h) g639 g640 g641 g33 ⟨by decide, by decide, pl_X7_placeAt⟩ ⟨by decide, by decide⟩ (rest := []) rfl (le8 rfl) dX7_hold_11 (fun v5 S4 h => ?_) (fun k9 S9 hk h => VX_out C htab hk (h.2 (by omega)))
    replace h := h.1 rfl
    refine V_st (st' := [Value.int v5]) rfl ?_
    refine V_istore (pc := 14) C dX7_hold_14 (by decide) rfl ?_
    refine V_iload (pc := 16) C dX7_hold_16 6 rfl ?_
    refine V_iconst (pc := 18) C (v := 1) dX7_hold_18 rfl ?_
    refine V_sipush (pc := 19) C (v := 5000) dX7_hold_19 rfl ?_
    refine V_callS (pc := 22) C (ct_X7_needWithin hT hl h) g129 g130 g131 g33 ⟨by decide, by decide, pl_X7_needWithin⟩ ⟨by decide, by decide⟩ (rest := []) rfl (le8 rfl) dX7_hold_22 (fun v8 S7 h => ?_) (fun k9 S9 hk h => VX_out C htab hk (h.2 (by omega)))
    replace h := h.1 rfl
    refine V_st (st' := []) rfl ?_
    refine V_aload (pc := 25) C dX7_hold_25 1 rfl ?_
    refine V_iload (pc := 27) C dX7_hold_27 0 rfl ?_
    refine V_callS (pc := 29) C (ct_X7_needFree hT hl h) g643 g644 g645 g33 ⟨by decide, by decide, pl_X7_needFree⟩ ⟨by decide, by decide⟩ (rest := []) rfl (le8 rfl) dX7_hold_29 (fun v11 S10 h => ?_) (fun k9 S9 hk h => VX_out C htab hk (h.2 (by omega)))
    replace h := h.1 rfl
    refine V_st (st' := []) rfl ?_
    refine V_aload_n (pc := 32) C dX7_hold_32 rfl 2 rfl ?_
    refine V_getF (pc := 33) C hT f1_X7_4 g94 dX7_hold_33 ?_
    refine V_callV (pc := 36) C (ct_size hT hl h) g200 g201 g202 g203 g36 ⟨by decide, by decide, pl_Jx4a65c_size_8abf5⟩ (enc_ne63 (by decide)) (ct_obj hT rfl (by decide)) rfl ⟨by decide, by decide⟩ (rest := []) rfl (le8 rfl) dX7_hold_36 (fun v14 S13 h => ?_) (fun k9 S9 hk h => VX_out C htab hk (h.2 (by omega)))
    replace h := h.1 rfl
    refine V_st (st' := [Value.int v14]) rfl ?_
    refine V_bipush (pc := 39) C (v := 100) dX7_hold_39 rfl ?_
    refine V_icmp_lt (pc := 41) (tgt := 54) C dX7_hold_41 (by decide) h (fun h => ?_) (fun h => ?_)
    · refine V_aload_n (pc := 54) C dX7_hold_54 rfl 2 rfl ?_
      refine V_getF (pc := 55) C hT f1_X7_4 g94 dX7_hold_55 ?_
      refine V_callV (pc := 58) C (ct_size hT hl h) g200 g201 g202 g203 g36 ⟨by decide, by decide, pl_Jx4a65c_size_8abf5⟩ (enc_ne63 (by decide)) (ct_obj hT rfl (by decide)) rfl ⟨by decide, by decide⟩ (rest := []) rfl (le8 rfl) dX7_hold_58 (fun v17 S16 h => ?_) (fun k9 S9 hk h => VX_out C htab hk (h.2 (by omega)))
      replace h := h.1 rfl
      refine V_st (st' := [Value.int v17]) rfl ?_
      refine V_istore (pc := 61) C dX7_hold_61 (by decide) rfl ?_
      refine V_aload_n (pc := 63) C dX7_hold_63 rfl 3 rfl ?_
      refine V_getF (pc := 64) C hT f1_X7_4 g94 dX7_hold_64 ?_
      refine V_newO (pc := 67) (k := 7) (fds := fdHold) C hT tb1_g CF_X2 rfl (by decide) (by decide +kernel) (by decide +kernel) rfl g550 g648 g55 dX7_hold_67 h (fun h => V_nR fun v20 e8 => V_nx fun S19 e9 => ?_)
      replace h := h v20 e8 S19 e9; clear e8 e9
      refine V_dup (pc := 70) C dX7_hold_70 rfl ?_
      refine V_aload (pc := 71) C dX7_hold_71 2 rfl ?_
      refine V_iload (pc := 73) C dX7_hold_73 1 rfl ?_
      refine V_aload_n (pc := 75) C dX7_hold_75 rfl 3 rfl ?_
      refine V_getI (pc := 76) C hT f1_X7_6 g96 dX7_hold_76 ?_
      refine V_iload (pc := 79) C dX7_hold_79 7 rfl ?_
      refine V_iadd (pc := 81) C dX7_hold_81 ?_
      refine V_aload (pc := 82) C dX7_hold_82 2 rfl ?_
      refine V_getI (pc := 84) C hT f1_X5_3 g505 dX7_hold_84 ?_
      refine V_callS (pc := 87) C (ct_J9_min_7cf53 hT hl h) g649 g301 g302 g44 ⟨by decide, by decide, pl_J9_min_7cf53⟩ ⟨by decide, by decide⟩ (rest := [Value.int v5, Value.ref (enc 6 (nt v2)), Value.ref (enc 7 (nt v20)), Value.ref (enc 7 (nt v20)), Value.ref (enc 1 4)]) rfl (le8 rfl) dX7_hold_87 (fun v22 S21 h => ?_) (fun k9 S9 hk h => VX_out C htab hk (h.2 (by omega)))
      replace h := h.1 rfl
      refine V_st (st' := [Value.int v22, Value.int v5, Value.ref (enc 6 (nt v2)), Value.ref (enc 7 (nt v20)), Value.ref (enc 7 (nt v20)), Value.ref (enc 1 4)]) rfl ?_
      refine V_callI (pc := 90) C (ct_X2_init hT hl h) g650 g651 g652 g55 rfl ⟨by decide, by decide, pl_X2_init⟩ ⟨by decide, by decide⟩ (rest := [Value.ref (enc 7 (nt v20)), Value.ref (enc 1 4)]) rfl (le8 rfl) dX7_hold_90 (fun v25 S24 h => ?_) (fun k9 S9 hk h => VX_out C htab hk (h.2 (by omega)))
      replace h := h.1 rfl
      refine V_st (st' := [Value.ref (enc 7 (nt v20)), Value.ref (enc 1 4)]) rfl ?_
      refine V_callV (pc := 93) C (ct_add hT hl (by decide) h) g249 g250 g251 g252 g36 ⟨by decide, by decide, pl_Jx4a65c_add_9ea2d⟩ (enc_ne63 (by decide)) (ct_obj hT rfl (by decide)) rfl ⟨by decide, by decide⟩ (rest := []) rfl (le8 rfl) dX7_hold_93 (fun v28 S27 h => ?_) (fun k9 S9 hk h => VX_out C htab hk (h.2 (by omega)))
      replace h := h.1 rfl
      refine V_st (st' := [Value.int v28]) rfl ?_
      refine V_pop (pc := 96) C dX7_hold_96 rfl ?_
      refine V_aload (pc := 97) C dX7_hold_97 2 rfl ?_
      refine V_getR (pc := 99) C hT f1_X5_4 (by decide) g507 dX7_hold_99 h (fun h => ?_)
      refine V_iload (pc := 102) C dX7_hold_102 1 rfl ?_
      refine V_sipush (pc := 104) C (v := 1000) dX7_hold_104 rfl ?_
      refine V_iload (pc := 107) C dX7_hold_107 0 rfl ?_
      refine V_iadd (pc := 109) C dX7_hold_109 ?_
      refine V_pst (pc := 110) C hT tb1_arr h dX7_hold_110 (fun h => V_nx fun S30 e9 => ?_)
      replace h := h S30 e9; clear e9
      refine V_iload (pc := 111) C dX7_hold_111 0 rfl ?_
      exact V_iret (pc := 113) C hr rfl h dX7_hold_113
    · exact V_throw (pc := 44) C htab (k9 := 2) (by decide) at_RX7_2 str_RX7_210 ⟨by decide, le8 rfl⟩ dX7_hold_44 dX7_hold_47 dX7_hold_48 dX7_hold_50 dX7_hold_53 h
theorem pl_X7_needHold : (parseMethodDescriptor yX7_needHold.desc).map (fun d => d.parameters.length) = some 1 := by decide +kernel
def w_X7_needHold_15  (Q : Nat → Int32 → Sg → Prop)  (S : Sg) : Prop := (S.2.1 + 1 ≤ nB1 ∧ S.2.2 + 6 ≤ nB2 ∧ Q 3 0 (tS S))
theorem k_X7_needHold_15 (hT : xT X = tb1) (hl : l.stackTraces = false) (C : Cn X k0 p l R s m meth c cX7_needHold RX7 2 6 82) (hr : meth.sig.returnType = none) (hnm : meth.name = yX7_needHold.name) (htab : ∀ x ∈ c.exceptionTable.toList, False)   {S : Sg} (h : w_X7_needHold_15  Qa  S) : V X p l e R s m args below meth c 2 (QM X below args s S0 ad0 rvV Qa) S0 ad0 S 15 [] [] := by
  exact V_throwW (pc := 15) C htab (k9 := 3) (by decide) at_RX7_3 str_RX7_356 ⟨by decide, le8 rfl⟩ dX7_needHold_15 dX7_needHold_18 dX7_needHold_19 dX7_needHold_22 dX7_needHold_25 h
def w_X7_needHold (a1 : Int32) (S : Sg) (Q : Nat → Int32 → Sg → Prop) : Prop := ((a1 < 0 → w_X7_needHold_15  Q  S) ∧ (¬ a1 < 0 → (w_size 4 S (fun k3 v2 S1 => (k3 = 0 → ((a1 < v2 → Q 0 0 S1) ∧ (¬ a1 < v2 → w_X7_needHold_15  Q  S1))) ∧ (¬ k3 = 0 → Q k3 0 S1)))))
theorem ct_X7_needHold (hT : xT X = tb1) (hl : l.stackTraces = false) {a1 : Int32} {S : Sg} (h : w_X7_needHold a1 S Qa) : CT X k0 l yX7_needHold cX7_needHold 2 none 6 82 [Value.ref (enc 0 0), Value.int a1] rvV S Qa :=
  CT_ofV (own := RX7) (by decide +kernel) (le8 rfl) rfl hl fun p e R s m args below meth c ad0 C hr hnm htab => by
    refine V_iload_n (pc := 0) C dX7_needHold_0 rfl 1 rfl ?_
    refine V_if_lt (pc := 1) (tgt := 15) C dX7_needHold_1 (by decide) h (fun h => ?_) (fun h => ?_)
    · refine V_sub [] rfl ?_
      exact k_X7_needHold_15 hT hl C hr hnm htab  h
    · refine V_iload_n (pc := 4) C dX7_needHold_4 rfl 1 rfl ?_
      refine V_aload_n (pc := 5) C dX7_needHold_5 rfl 0 rfl ?_
      refine V_getF (pc := 6) C hT f1_X7_4 g94 dX7_needHold_6 ?_
      refine V_callV (pc := 9) C (ct_size hT hl h) g200 g201 g202 g203 g36 ⟨by decide, by decide, pl_Jx4a65c_size_8abf5⟩ (enc_ne63 (by decide)) (ct_obj hT rfl (by decide)) rfl ⟨by decide, by decide⟩ (rest := [Value.int a1]) rfl (le8 rfl) dX7_needHold_9 (fun v2 S1 h => ?_) (fun k9 S9 hk h => VX_out C htab hk (h.2 (by omega)))
      replace h := h.1 rfl
      refine V_st (st' := [Value.int v2, Value.int a1]) rfl ?_
      refine V_icmp_lt (pc := 12) (tgt := 26) C dX7_needHold_12 (by decide) h (fun h => ?_) (fun h => ?_)
      · exact V_vret (pc := 26) C hr rfl h dX7_needHold_26
      · refine V_sub [] rfl ?_
        exact k_X7_needHold_15 hT hl C hr hnm htab  h
theorem pl_X7_openHoldAt : (parseMethodDescriptor yX7_openHoldAt.desc).map (fun d => d.parameters.length) = some 1 := by decide +kernel
def w_X7_openHoldAt (a1 : Int32) (S : Sg) (Q : Nat → Int32 → Sg → Prop) : Prop := (w_X7_needHold a1 S (fun k3 v2 S1 => (k3 = 0 → (w_get 4 a1 S1 (fun k6 v5 S4 => (k6 = 0 → (((S4.1 63 (nt v5)) = 0 → Q 0 v5 S4) ∧ (¬ (S4.1 63 (nt v5)) = 0 → (S4.2.1 + 1 ≤ nB1 ∧ S4.2.2 + 6 ≤ nB2 ∧ Q 2 0 (tS S4))))) ∧ (¬ k6 = 0 → Q k6 0 S4)))) ∧ (¬ k3 = 0 → Q k3 0 S1)))
theorem ct_X7_openHoldAt (hT : xT X = tb1) (hl : l.stackTraces = false) {a1 : Int32} {S : Sg} (h : w_X7_openHoldAt a1 S Qa) : CT X k0 l yX7_openHoldAt cX7_openHoldAt 3 (some (.object "Platterhouse$Hold")) 7 103 [Value.ref (enc 0 0), Value.int a1] (rvR 7) S Qa :=
  CT_ofV (own := RX7) (by decide +kernel) (le8 rfl) rfl hl fun p e R s m args below meth c ad0 C hr hnm htab => by
    refine V_aload_n (pc := 0) C dX7_openHoldAt_0 rfl 0 rfl ?_
    refine V_iload_n (pc := 1) C dX7_openHoldAt_1 rfl 1 rfl ?_
    refine V_callV (pc := 2) C (ct_X7_needHold hT hl h) g679 g681 g20 g682 g33 ⟨by decide, by decide, pl_X7_needHold⟩ (enc_ne63 (by decide)) (ct_obj hT rfl (by decide)) rfl ⟨by decide, by decide⟩ (rest := []) rfl (le8 rfl) dX7_openHoldAt_2 (fun v2 S1 h => ?_) (fun k9 S9 hk h => VX_out C htab hk (h.2 (by omega)))
    replace h := h.1 rfl
    refine V_st (st' := []) rfl ?_
    refine V_aload_n (pc := 5) C dX7_openHoldAt_5 rfl 0 rfl ?_
    refine V_getF (pc := 6) C hT f1_X7_4 g94 dX7_openHoldAt_6 ?_
    refine V_iload_n (pc := 9) C dX7_openHoldAt_9 rfl 1 rfl ?_
    refine V_callV (pc := 10) C (ct_get hT hl (by decide) h) g332 g333 g334 g335 g36 ⟨by decide, by decide, pl_Jx4a65c_get_915e3⟩ (enc_ne63 (by decide)) (ct_obj hT rfl (by decide)) rfl ⟨by decide, by decide⟩ (rest := []) rfl (le8 rfl) dX7_openHoldAt_10 (fun v5 S4 h => ?_) (fun k9 S9 hk h => VX_out C htab hk (h.2 (by omega)))
    replace h := h.1 rfl
    refine V_st (st' := [Value.ref (enc 7 (nt v5))]) rfl ?_
    refine V_cast (pc := 13) C hT (by decide) rfl rfl g550 dX7_openHoldAt_13 ?_
    refine V_astore_n (pc := 16) C dX7_openHoldAt_16 rfl (by decide) rfl ?_
    refine V_aload_n (pc := 17) C dX7_openHoldAt_17 rfl 0 rfl ?_
    refine V_getI (pc := 18) C hT f1_X2_3 g661 dX7_openHoldAt_18 ?_
    refine V_if_eq (pc := 21) (tgt := 35) C dX7_openHoldAt_21 (by decide) h (fun h => ?_) (fun h => ?_)
    · refine V_aload_n (pc := 35) C dX7_openHoldAt_35 rfl 0 rfl ?_
      exact V_aret (pc := 36) C hr rfl h dX7_openHoldAt_36
    · exact V_throwW (pc := 24) C htab (k9 := 2) (by decide) at_RX7_2 str_RX7_364 ⟨by decide, le8 rfl⟩ dX7_openHoldAt_24 dX7_openHoldAt_27 dX7_openHoldAt_28 dX7_openHoldAt_31 dX7_openHoldAt_34 h
theorem pl_X7_letGo : (parseMethodDescriptor yX7_letGo.desc).map (fun d => d.parameters.length) = some 1 := by decide +kernel
def w_X7_letGo (a1 : Int32) (S : Sg) (Q : Nat → Int32 → Sg → Prop) : Prop := (w_X7_openHoldAt a1 S (fun k3 v2 S1 => (k3 = 0 → (w_X7_endUnbought v2 S1 (fun k6 v5 S4 => (k6 = 0 → Q 0 v5 S4) ∧ (¬ k6 = 0 → Q k6 0 S4)))) ∧ (¬ k3 = 0 → Q k3 0 S1)))
theorem ct_X7_letGo (hT : xT X = tb1) (hl : l.stackTraces = false) {a1 : Int32} {S : Sg} (h : w_X7_letGo a1 S Qa) : CT X k0 l yX7_letGo cX7_letGo 2 (some .int) 11 249 [Value.ref (enc 0 0), Value.int a1] rvI S Qa :=
  CT_ofV (own := RX7) (by decide +kernel) (le8 rfl) rfl hl fun p e R s m args below meth c ad0 C hr hnm htab => by
    refine V_aload_n (pc := 0) C dX7_letGo_0 rfl 0 rfl ?_
    refine V_aload_n (pc := 1) C dX7_letGo_1 rfl 0 rfl ?_
    refine V_iload_n (pc := 2) C dX7_letGo_2 rfl 1 rfl ?_
    refine V_callV (pc := 3) C (ct_X7_openHoldAt hT hl h) g675 g677 g19 g678 g33 ⟨by decide, by decide, pl_X7_openHoldAt⟩ (enc_ne63 (by decide)) (ct_obj hT rfl (by decide)) rfl ⟨by decide, by decide⟩ (rest := [Value.ref (enc 0 0)]) rfl (le8 rfl) dX7_letGo_3 (fun v2 S1 h => ?_) (fun k9 S9 hk h => VX_out C htab hk (h.2 (by omega)))
    replace h := h.1 rfl
    refine V_st (st' := [Value.ref (enc 7 (nt v2)), Value.ref (enc 0 0)]) rfl ?_
    refine V_callV (pc := 6) C (ct_X7_endUnbought hT hl h) g580 g582 g14 g583 g33 ⟨by decide, by decide, pl_X7_endUnbought⟩ (enc_ne63 (by decide)) (ct_obj hT rfl (by decide)) rfl ⟨by decide, by decide⟩ (rest := []) rfl (le8 rfl) dX7_letGo_6 (fun v5 S4 h => ?_) (fun k9 S9 hk h => VX_out C htab hk (h.2 (by omega)))
    replace h := h.1 rfl
    refine V_st (st' := [Value.int v5]) rfl ?_
    exact V_iret (pc := 9) C hr rfl h dX7_letGo_9
theorem pl_X7_needOldEnough : (parseMethodDescriptor yX7_needOldEnough.desc).map (fun d => d.parameters.length) = some 2 := by decide +kernel
def w_X7_needOldEnough (a0 : Int32) (a1 : Int32) (S : Sg) (Q : Nat → Int32 → Sg → Prop) : Prop := (¬ S.1 51 (nt a0) < 0 ∧ (((S.1 32 (nt (S.1 51 (nt a0)))) ≤ a1 → Q 0 0 S) ∧ (¬ (S.1 32 (nt (S.1 51 (nt a0)))) ≤ a1 → (S.2.1 + 1 ≤ nB1 ∧ S.2.2 + 6 ≤ nB2 ∧ Q 2 0 (tS S)))))
theorem ct_X7_needOldEnough (hT : xT X = tb1) (hl : l.stackTraces = false) {a0 : Int32} {a1 : Int32} {S : Sg} (h : w_X7_needOldEnough a0 a1 S Qa) : CT X k0 l yX7_needOldEnough cX7_needOldEnough 2 none 6 82 [Value.ref (enc 6 (nt a0)), Value.int a1] rvV S Qa :=
  CT_ofV (own := RX7) (by decide +kernel) (le8 rfl) rfl hl fun p e R s m args below meth c ad0 C hr hnm htab => by
    refine V_iload_n (pc := 0) C dX7_needOldEnough_0 rfl 1 rfl ?_
    refine V_aload_n (pc := 1) C dX7_needOldEnough_1 rfl 0 rfl ?_
    refine V_getR (pc := 2) C hT f1_X5_1 (by decide) g501 dX7_needOldEnough_2 h (fun h => ?_)
    refine V_getI (pc := 5) C hT f1_X0_2 g364 dX7_needOldEnough_5 ?_
    refine V_icmp_ge (pc := 8) (tgt := 22) C dX7_needOldEnough_8 (by decide) h (fun h => ?_) (fun h => ?_)
    · exact V_vret (pc := 22) C hr rfl h dX7_needOldEnough_22
    · exact V_throwW (pc := 11) C htab (k9 := 2) (by decide) at_RX7_2 str_RX7_350 ⟨by decide, le8 rfl⟩ dX7_needOldEnough_11 dX7_needOldEnough_14 dX7_needOldEnough_15 dX7_needOldEnough_18 dX7_needOldEnough_21 h
theorem pl_X7_needTickets : (parseMethodDescriptor yX7_needTickets.desc).map (fun d => d.parameters.length) = some 1 := by decide +kernel
def w_X7_needTickets (a1 : Int32) (S : Sg) (Q : Nat → Int32 → Sg → Prop) : Prop := (w_size 5 S (fun k3 v2 S1 => (k3 = 0 → (((v2 + a1) ≤ 400 → Q 0 0 S1) ∧ (¬ (v2 + a1) ≤ 400 → (S1.2.1 + 1 ≤ nB1 ∧ S1.2.2 + 6 ≤ nB2 ∧ Q 2 0 (tS S1))))) ∧ (¬ k3 = 0 → Q k3 0 S1)))
theorem ct_X7_needTickets (hT : xT X = tb1) (hl : l.stackTraces = false) {a1 : Int32} {S : Sg} (h : w_X7_needTickets a1 S Qa) : CT X k0 l yX7_needTickets cX7_needTickets 2 none 6 82 [Value.ref (enc 0 0), Value.int a1] rvV S Qa :=
  CT_ofV (own := RX7) (by decide +kernel) (le8 rfl) rfl hl fun p e R s m args below meth c ad0 C hr hnm htab => by
    refine V_aload_n (pc := 0) C dX7_needTickets_0 rfl 0 rfl ?_
    refine V_getF (pc := 1) C hT f1_X7_5 g95 dX7_needTickets_1 ?_
    refine V_callV (pc := 4) C (ct_size hT hl h) g200 g201 g202 g203 g36 ⟨by decide, by decide, pl_Jx4a65c_size_8abf5⟩ (enc_ne63 (by decide)) (ct_obj hT rfl (by decide)) rfl ⟨by decide, by decide⟩ (rest := []) rfl (le8 rfl) dX7_needTickets_4 (fun v2 S1 h => ?_) (fun k9 S9 hk h => VX_out C htab hk (h.2 (by omega)))
    replace h := h.1 rfl
    refine V_st (st' := [Value.int v2]) rfl ?_
    refine V_iload_n (pc := 7) C dX7_needTickets_7 rfl 1 rfl ?_
    refine V_iadd (pc := 8) C dX7_needTickets_8 ?_
    refine V_sipush (pc := 9) C (v := 400) dX7_needTickets_9 rfl ?_
    refine V_icmp_le (pc := 12) (tgt := 26) C dX7_needTickets_12 (by decide) h (fun h => ?_) (fun h => ?_)
    · exact V_vret (pc := 26) C hr rfl h dX7_needTickets_26
    · exact V_throwW (pc := 15) C htab (k9 := 2) (by decide) at_RX7_2 str_RX7_352 ⟨by decide, le8 rfl⟩ dX7_needTickets_15 dX7_needTickets_18 dX7_needTickets_19 dX7_needTickets_22 dX7_needTickets_25 h
theorem pl_X7_buy : (parseMethodDescriptor yX7_buy.desc).map (fun d => d.parameters.length) = some 2 := by decide +kernel
def w_X7_buy (a1 : Int32) (a2 : Int32) (S : Sg) (Q : Nat → Int32 → Sg → Prop) : Prop := (w_X7_needHold a1 S (fun k3 v2 S1 => (k3 = 0 → (w_X7_needWithin a2 0 120 S1 (fun k6 v5 S4 => (k6 = 0 → (w_X7_openHoldAt a1 S4 (fun k9 v8 S7 => (k9 = 0 → (¬ S7.1 60 (nt v8) < 0 ∧ (w_X7_needOldEnough (S7.1 60 (nt v8)) a2 S7 (fun k12 v11 S10 => (k12 = 0 → (w_X7_needTickets 1 S10 (fun k15 v14 S13 => (k15 = 0 → (∀ S16, S16 = su S13 63 (nt v8) 1 → (¬ S16.1 60 (nt v8) < 0 ∧ (w_X7_addTicket (S16.1 60 (nt v8)) (S16.1 61 (nt v8)) a2 S16 (fun k19 v18 S17 => (k19 = 0 → Q 0 v18 S17) ∧ (¬ k19 = 0 → Q k19 0 S17)))))) ∧ (¬ k15 = 0 → Q k15 0 S13)))) ∧ (¬ k12 = 0 → Q k12 0 S10))))) ∧ (¬ k9 = 0 → Q k9 0 S7)))) ∧ (¬ k6 = 0 → Q k6 0 S4)))) ∧ (¬ k3 = 0 → Q k3 0 S1)))
theorem ct_X7_buy (hT : xT X = tb1) (hl : l.stackTraces = false) {a1 : Int32} {a2 : Int32} {S : Sg} (h : w_X7_buy a1 a2 S Qa) : CT X k0 l yX7_buy cX7_buy 4 (some .int) 9 206 [Value.ref (enc 0 0), Value.int a1, Value.int a2] rvI S Qa :=
  CT_ofV (own := RX7) (by decide +kernel) (le8 rfl) rfl hl fun p e R s m args below meth c ad0 C hr hnm htab => by
    refine V_aload_n (pc := 0) C dX7_buy_0 rfl 0 rfl ?_
    refine V_iload_n (pc := 1) C dX7_buy_1 rfl 1 rfl ?_
    refine V_callV (pc := 2) C (ct_X7_needHold hT hl h) g679 g681 g20 g682 g33 ⟨by decide, by decide, pl_X7_needHold⟩ (enc_ne63 (by decide)) (ct_obj hT rfl (by decide)) rfl ⟨by decide, by decide⟩ (rest := []) rfl (le8 rfl) dX7_buy_2 (fun v2 S1 h => ?_) (fun k9 S9 hk h => VX_out C htab hk (h.2 (by omega)))
    replace h := h.1 rfl
    refine V_st (st' := []) rfl ?_
    refine V_iload_n (pc := 5) C dX7_buy_5 rfl 2 rfl ?_
    refine V_iconst (pc := 6) C (v := 0) dX7_buy_6 rfl ?_
    refine V_bipush (pc := 7) C (v := 120) dX7_buy_7 rfl ?_
    refine V_callS (pc := 9) C (ct_X7_needWithin hT hl h) g129 g130 g131 g33 ⟨by decide, by decide, pl_X7_needWithin⟩ ⟨by decide, by decide⟩ (rest := []) rfl (le8 rfl) dX7_buy_9 (fun v5 S4 h => ?_) (fun k9 S9 hk h => VX_out C htab hk (h.2 (by omega)))
    replace h := h.1 rfl
    refine V_st (st' := []) rfl ?_
    refine V_aload_n (pc := 12) C dX7_buy_12 rfl 0 rfl ?_
    refine V_iload_n (pc := 13) C dX7_buy_13 rfl 1 rfl ?_
    refine V_callV (pc := 14) C (ct_X7_openHoldAt hT hl h) g675 g677 g19 g678 g33 ⟨by decide, by decide, pl_X7_openHoldAt⟩ (enc_ne63 (by decide)) (ct_obj hT rfl (by decide)) rfl ⟨by decide, by decide⟩ (rest := []) rfl (le8 rfl) dX7_buy_14 (fun v8 S7 h => ?_) (fun k9 S9 hk h => VX_out C htab hk (h.2 (by omega)))
    replace h := h.1 rfl
    refine V_st (st' := [Value.ref (enc 7 (nt v8))]) rfl ?_
    refine V_astore_n (pc := 17) C dX7_buy_17 rfl (by decide) rfl ?_
    refine V_aload_n (pc := 18) C dX7_buy_18 rfl 0 rfl ?_
    refine V_getR (pc := 19) C hT f1_X2_0 (by decide) g655 dX7_buy_19 h (fun h => ?_)
    refine V_iload_n (pc := 22) C dX7_buy_22 rfl 3 rfl ?_
    refine V_callS (pc := 23) C (ct_X7_needOldEnough hT hl h) g689 g690 g691 g33 ⟨by decide, by decide, pl_X7_needOldEnough⟩ ⟨by decide, by decide⟩ (rest := []) rfl (le8 rfl) dX7_buy_23 (fun v11 S10 h => ?_) (fun k9 S9 hk h => VX_out C htab hk (h.2 (by omega)))
    replace h := h.1 rfl
    refine V_st (st' := []) rfl ?_
    refine V_aload_n (pc := 26) C dX7_buy_26 rfl 1 rfl ?_
    refine V_iconst (pc := 27) C (v := 1) dX7_buy_27 rfl ?_
    refine V_callV (pc := 28) C (ct_X7_needTickets hT hl h) g693 g695 g21 g696 g33 ⟨by decide, by decide, pl_X7_needTickets⟩ (enc_ne63 (by decide)) (ct_obj hT rfl (by decide)) rfl ⟨by decide, by decide⟩ (rest := []) rfl (le8 rfl) dX7_buy_28 (fun v14 S13 h => ?_) (fun k9 S9 hk h => VX_out C htab hk (h.2 (by omega)))
    replace h := h.1 rfl
    refine V_st (st' := []) rfl ?_
    refine V_aload_n (pc := 31) C dX7_buy_31 rfl 0 rfl ?_
    refine V_iconst (pc := 32) C (v := 1) dX7_buy_32 rfl ?_
    refine V_putI (pc := 33) C hT tb1_ok f1_X2_3 (by unfold lc; decide) g661 (Or.inl rfl) (Or.inr ⟨rfl, by decide⟩) dX7_buy_33 (V_nx fun S16 e9 => ?_)
    replace h := h S16 e9; clear e9
    refine V_aload_n (pc := 36) C dX7_buy_36 rfl 1 rfl ?_
    refine V_aload_n (pc := 37) C dX7_buy_37 rfl 0 rfl ?_
    refine V_getR (pc := 38) C hT f1_X2_0 (by decide) g655 dX7_buy_38 h (fun h => ?_)
    refine V_aload_n (pc := 41) C dX7_buy_41 rfl 0 rfl ?_
    refine V_getI (pc := 42) C hT f1_X2_1 g657 dX7_buy_42 ?_
    refine V_iload_n (pc := 45) C dX7_buy_45 rfl 3 rfl ?_
    refine V_callV (pc := 46) C (ct_X7_addTicket hT hl h) g593 g595 g16 g596 g33 ⟨by decide, by decide, pl_X7_addTicket⟩ (enc_ne63 (by decide)) (ct_obj hT rfl (by decide)) rfl ⟨by decide, by decide⟩ (rest := []) rfl (le8 rfl) dX7_buy_46 (fun v18 S17 h => ?_) (fun k9 S9 hk h => VX_out C htab hk (h.2 (by omega)))
    replace h := h.1 rfl
    refine V_st (st' := [Value.int v18]) rfl ?_
    exact V_iret (pc := 49) C hr rfl h dX7_buy_49
theorem pl_X7_sell : (parseMethodDescriptor yX7_sell.desc).map (fun d => d.parameters.length) = some 4 := by decide +kernel
def w_X7_sell (a1 : Int32) (a2 : Int32) (a3 : Int32) (a4 : Int32) (S : Sg) (Q : Nat → Int32 → Sg → Prop) : Prop := (w_X7_showAt a1 S (fun k3 v2 S1 => (k3 = 0 → (w_X7_placeAt v2 a2 a3 S1 (fun k6 v5 S4 => (k6 = 0 → (w_X7_needWithin a4 0 120 S4 (fun k9 v8 S7 => (k9 = 0 → (w_X7_needFree v2 v5 S7 (fun k12 v11 S10 => (k12 = 0 → (w_X7_needOldEnough v2 a4 S10 (fun k15 v14 S13 => (k15 = 0 → (w_X7_needTickets 1 S13 (fun k18 v17 S16 => (k18 = 0 → (w_X7_addTicket v2 v5 a4 S16 (fun k21 v20 S19 => (k21 = 0 → Q 0 v20 S19) ∧ (¬ k21 = 0 → Q k21 0 S19)))) ∧ (¬ k18 = 0 → Q k18 0 S16)))) ∧ (¬ k15 = 0 → Q k15 0 S13)))) ∧ (¬ k12 = 0 → Q k12 0 S10)))) ∧ (¬ k9 = 0 → Q k9 0 S7)))) ∧ (¬ k6 = 0 → Q k6 0 S4)))) ∧ (¬ k3 = 0 → Q k3 0 S1)))
theorem ct_X7_sell (hT : xT X = tb1) (hl : l.stackTraces = false) {a1 : Int32} {a2 : Int32} {a3 : Int32} {a4 : Int32} {S : Sg} (h : w_X7_sell a1 a2 a3 a4 S Qa) : CT X k0 l yX7_sell cX7_sell 7 (some .int) 9 206 [Value.ref (enc 0 0), Value.int a1, Value.int a2, Value.int a3, Value.int a4] rvI S Qa :=
  CT_ofV (own := RX7) (by decide +kernel) (le8 rfl) rfl hl fun p e R s m args below meth c ad0 C hr hnm htab => by
    refine V_aload_n (pc := 0) C dX7_sell_0 rfl 0 rfl ?_
    refine V_iload_n (pc := 1) C dX7_sell_1 rfl 1 rfl ?_
    refine V_callV (pc := 2) C (ct_X7_showAt hT hl h) g536 g538 g11 g539 g33 ⟨by decide, by decide, pl_X7_showAt⟩ (enc_ne63 (by decide)) (ct_obj hT rfl (by decide)) rfl ⟨by decide, by decide⟩ (rest := []) rfl (le8 rfl) dX7_sell_2 (fun v2 S1 h => ?_) (fun k9 S9 hk h => VX_out C htab hk (h.2 (by omega)))
    replace h := h.1 rfl
    refine V_st (st' := [Value.ref (enc 6 (nt v2))]) rfl ?_
    refine V_astore (pc := 5) C dX7_sell_5 (by decide) rfl ?_
    refine V_aload (pc := 7) C dX7_sell_7 0 rfl ?_
    refine V_iload_n (pc := 9) C dX7_sell_9 rfl 3 rfl ?_
    refine V_iload_n (pc := 10) C dX7_sell_10 rfl 4 rfl ?_
    refine V_callS (pc := 11) C (ct_X7_placeAt hT hl h) g639 g640 g641 g33 ⟨by decide, by decide, pl_X7_placeAt⟩ ⟨by decide, by decide⟩ (rest := []) rfl (le8 rfl) dX7_sell_11 (fun v5 S4 h => ?_) (fun k9 S9 hk h => VX_out C htab hk (h.2 (by omega)))
    replace h := h.1 rfl
    refine V_st (st' := [Value.int v5]) rfl ?_
    refine V_istore (pc := 14) C dX7_sell_14 (by decide) rfl ?_
    refine V_iload (pc := 16) C dX7_sell_16 6 rfl ?_
    refine V_iconst (pc := 18) C (v := 0) dX7_sell_18 rfl ?_
    refine V_bipush (pc := 19) C (v := 120) dX7_sell_19 rfl ?_
    refine V_callS (pc := 21) C (ct_X7_needWithin hT hl h) g129 g130 g131 g33 ⟨by decide, by decide, pl_X7_needWithin⟩ ⟨by decide, by decide⟩ (rest := []) rfl (le8 rfl) dX7_sell_21 (fun v8 S7 h => ?_) (fun k9 S9 hk h => VX_out C htab hk (h.2 (by omega)))
    replace h := h.1 rfl
    refine V_st (st' := []) rfl ?_
    refine V_aload (pc := 24) C dX7_sell_24 1 rfl ?_
    refine V_iload (pc := 26) C dX7_sell_26 0 rfl ?_
    refine V_callS (pc := 28) C (ct_X7_needFree hT hl h) g643 g644 g645 g33 ⟨by decide, by decide, pl_X7_needFree⟩ ⟨by decide, by decide⟩ (rest := []) rfl (le8 rfl) dX7_sell_28 (fun v11 S10 h => ?_) (fun k9 S9 hk h => VX_out C htab hk (h.2 (by omega)))
    replace h := h.1 rfl
    refine V_st (st' := []) rfl ?_
    refine V_aload (pc := 31) C dX7_sell_31 1 rfl ?_
    refine V_iload (pc := 33) C dX7_sell_33 6 rfl ?_
    refine V_callS (pc := 35) C (ct_X7_needOldEnough hT hl h) g689 g690 g691 g33 ⟨by decide, by decide, pl_X7_needOldEnough⟩ ⟨by decide, by decide⟩ (rest := []) rfl (le8 rfl) dX7_sell_35 (fun v14 S13 h => ?_) (fun k9 S9 hk h => VX_out C htab hk (h.2 (by omega)))
    replace h := h.1 rfl
    refine V_st (st' := []) rfl ?_
    refine V_aload_n (pc := 38) C dX7_sell_38 rfl 2 rfl ?_
    refine V_iconst (pc := 39) C (v := 1) dX7_sell_39 rfl ?_
    refine V_callV (pc := 40) C (ct_X7_needTickets hT hl h) g693 g695 g21 g696 g33 ⟨by decide, by decide, pl_X7_needTickets⟩ (enc_ne63 (by decide)) (ct_obj hT rfl (by decide)) rfl ⟨by decide, by decide⟩ (rest := []) rfl (le8 rfl) dX7_sell_40 (fun v17 S16 h => ?_) (fun k9 S9 hk h => VX_out C htab hk (h.2 (by omega)))
    replace h := h.1 rfl
    refine V_st (st' := []) rfl ?_
    refine V_aload_n (pc := 43) C dX7_sell_43 rfl 2 rfl ?_
    refine V_aload (pc := 44) C dX7_sell_44 1 rfl ?_
    refine V_iload (pc := 46) C dX7_sell_46 0 rfl ?_
    refine V_iload (pc := 48) C dX7_sell_48 6 rfl ?_
    refine V_callV (pc := 50) C (ct_X7_addTicket hT hl h) g593 g595 g16 g596 g33 ⟨by decide, by decide, pl_X7_addTicket⟩ (enc_ne63 (by decide)) (ct_obj hT rfl (by decide)) rfl ⟨by decide, by decide⟩ (rest := []) rfl (le8 rfl) dX7_sell_50 (fun v20 S19 h => ?_) (fun k9 S9 hk h => VX_out C htab hk (h.2 (by omega)))
    replace h := h.1 rfl
    refine V_st (st' := [Value.int v20]) rfl ?_
    exact V_iret (pc := 53) C hr rfl h dX7_sell_53
theorem pl_X7_group : (parseMethodDescriptor yX7_group.desc).map (fun d => d.parameters.length) = some 3 := by decide +kernel
def w_X7_group_73  (Q : Nat → Int32 → Sg → Prop) : Nat → Int32 → Int32 → Int32 → Int32 → Int32 → Int32 → Sg → Prop
  | 0, _, _, _, _, _, _, _ => False
  | n + 1, x2, x3, x4, x5, x6, x7, S => ((x2 ≤ x7 → Q 0 x6 S) ∧ (¬ x2 ≤ x7 → (w_X7_addTicket x4 (x5 + x7) x3 S (fun k3 v2 S1 => (k3 = 0 → w_X7_group_73  Q n x2 x3 x4 x5 x6 (x7 + 1) S1) ∧ (¬ k3 = 0 → Q k3 0 S1)))))
theorem k_X7_group_73 (hT : xT X = tb1) (hl : l.stackTraces = false) (C : Cn X k0 p l R s m meth c cX7_group RX7 8 9 206) (hr : meth.sig.returnType = (some .int)) (hnm : meth.name = yX7_group.name) (htab : ∀ x ∈ c.exceptionTable.toList, False)  : ∀ n {x2 : Int32} {x3 : Int32} {x4 : Int32} {x5 : Int32} {x6 : Int32} {x7 : Int32} {S : Sg}, w_X7_group_73  Qa n x2 x3 x4 x5 x6 x7 S → V X p l e R s m args below meth c 8 (QM X below args s S0 ad0 rvI Qa) S0 ad0 S 73 [(0, Value.ref (enc 0 0)), (2, Value.int x2), (3, Value.int x3), (4, Value.ref (enc 6 (nt x4))), (5, Value.int x5), (6, Value.int x6), (7, Value.int x7)] [] := by
  intro n
  induction n with
  | zero => intro x2 x3 x4 x5 x6 x7 S h; exact h.elim
  | succ n ih =>
    intro x2 x3 x4 x5 x6 x7 S h
    refine V_iload (pc := 73) C dX7_group_73 6 rfl ?_
    refine V_iload_n (pc := 75) C dX7_group_75 rfl 1 rfl ?_
    refine V_icmp_ge (pc := 76) (tgt := 98) C dX7_group_76 (by decide) h (fun h => ?_) (fun h => ?_)
    · refine V_iload (pc := 98) C dX7_group_98 5 rfl ?_
      exact V_iret (pc := 100) C hr rfl h dX7_group_100
    · refine V_aload_n (pc := 79) C dX7_group_79 rfl 0 rfl ?_
      refine V_aload (pc := 80) C dX7_group_80 3 rfl ?_
      refine V_iload (pc := 82) C dX7_group_82 4 rfl ?_
      refine V_iload (pc := 84) C dX7_group_84 6 rfl ?_
      refine V_iadd (pc := 86) C dX7_group_86 ?_
      refine V_iload_n (pc := 87) C dX7_group_87 rfl 2 rfl ?_
      refine V_callV (pc := 88) C (ct_X7_addTicket hT hl h) g593 g595 g16 g596 g33 ⟨by decide, by decide, pl_X7_addTicket⟩ (enc_ne63 (by decide)) (ct_obj hT rfl (by decide)) rfl ⟨by decide, by decide⟩ (rest := []) rfl (le8 rfl) dX7_group_88 (fun v2 S1 h => ?_) (fun k9 S9 hk h => VX_out C htab hk (h.2 (by omega)))
      replace h := h.1 rfl
      refine V_st (st' := [Value.int v2]) rfl ?_
      refine V_pop (pc := 91) C dX7_group_91 rfl ?_
      refine V_iinc (pc := 92) C (a := 6) (v := x7 + 1) dX7_group_92 rfl rfl (by decide) rfl ?_
      refine V_goto (pc := 95) (tgt := 73) C dX7_group_95 (by decide) ?_
      refine V_sub [1, 2, 3, 4, 5, 6, 0] rfl ?_
      exact ih h
def w_X7_group (a1 : Int32) (a2 : Int32) (a3 : Int32) (S : Sg) (Q : Nat → Int32 → Sg → Prop) : Prop := (w_X7_showAt a1 S (fun k6 v5 S4 => (k6 = 0 → (w_X7_needWithin a2 2 8 S4 (fun k9 v8 S7 => (k9 = 0 → (w_X7_needWithin a3 0 120 S7 (fun k12 v11 S10 => (k12 = 0 → (w_X7_needPlanned v5 S10 (fun k15 v14 S13 => (k15 = 0 → (w_X7_needOldEnough v5 a3 S13 (fun k18 v17 S16 => (k18 = 0 → (w_X7_needTickets a2 S16 (fun k21 v20 S19 => (k21 = 0 → (w_X5_placeForGroup v5 a2 S19 (fun k24 v23 S22 => (k24 = 0 → ((v23 = (-1) → (S22.2.1 + 1 ≤ nB1 ∧ S22.2.2 + 6 ≤ nB2 ∧ Q 2 0 (tS S22))) ∧ (¬ v23 = (-1) → (w_size 5 S22 (fun k27 v26 S25 => (k27 = 0 → ∃ n9, w_X7_group_73  Q n9 a2 a3 v5 v23 v26 0 S25) ∧ (¬ k27 = 0 → Q k27 0 S25)))))) ∧ (¬ k24 = 0 → Q k24 0 S22)))) ∧ (¬ k21 = 0 → Q k21 0 S19)))) ∧ (¬ k18 = 0 → Q k18 0 S16)))) ∧ (¬ k15 = 0 → Q k15 0 S13)))) ∧ (¬ k12 = 0 → Q k12 0 S10)))) ∧ (¬ k9 = 0 → Q k9 0 S7)))) ∧ (¬ k6 = 0 → Q k6 0 S4)))
theorem ct_X7_group (hT : xT X = tb1) (hl : l.stackTraces = false) {a1 : Int32} {a2 : Int32} {a3 : Int32} {S : Sg} (h : w_X7_group a1 a2 a3 S Qa) : CT X k0 l yX7_group cX7_group 8 (some .int) 9 206 [Value.ref (enc 0 0), Value.int a1, Value.int a2, Value.int a3] rvI S Qa :=
  CT_ofV (own := RX7) (by decide +kernel) (le8 rfl) rfl hl fun p e R s m args below meth c ad0 C hr hnm htab => by
    refine V_aload_n (pc := 0) C dX7_group_0 rfl 0 rfl ?_
    refine V_iload_n (pc := 1) C dX7_group_1 rfl 1 rfl ?_
    refine V_callV (pc := 2) C (ct_X7_showAt hT hl h) g536 g538 g11 g539 g33 ⟨by decide, by decide, pl_X7_showAt⟩ (enc_ne63 (by decide)) (ct_obj hT rfl (by decide)) rfl ⟨by decide, by decide⟩ (rest := []) rfl (le8 rfl) dX7_group_2 (fun v5 S4 h => ?_) (fun k9 S9 hk h => VX_out C htab hk (h.2 (by omega)))
    replace h := h.1 rfl
    refine V_st (st' := [Value.ref (enc 6 (nt v5))]) rfl ?_
    refine V_astore (pc := 5) C dX7_group_5 (by decide) rfl ?_
    refine V_iload_n (pc := 7) C dX7_group_7 rfl 3 rfl ?_
    refine V_iconst (pc := 8) C (v := 2) dX7_group_8 rfl ?_
    refine V_bipush (pc := 9) C (v := 8) dX7_group_9 rfl ?_
    refine V_callS (pc := 11) C (ct_X7_needWithin hT hl h) g129 g130 g131 g33 ⟨by decide, by decide, pl_X7_needWithin⟩ ⟨by decide, by decide⟩ (rest := []) rfl (le8 rfl) dX7_group_11 (fun v8 S7 h => ?_) (fun k9 S9 hk h => VX_out C htab hk (h.2 (by omega)))
    replace h := h.1 rfl
    refine V_st (st' := []) rfl ?_
    refine V_iload_n (pc := 14) C dX7_group_14 rfl 4 rfl ?_
    refine V_iconst (pc := 15) C (v := 0) dX7_group_15 rfl ?_
    refine V_bipush (pc := 16) C (v := 120) dX7_group_16 rfl ?_
    refine V_callS (pc := 18) C (ct_X7_needWithin hT hl h) g129 g130 g131 g33 ⟨by decide, by decide, pl_X7_needWithin⟩ ⟨by decide, by decide⟩ (rest := []) rfl (le8 rfl) dX7_group_18 (fun v11 S10 h => ?_) (fun k9 S9 hk h => VX_out C htab hk (h.2 (by omega)))
    replace h := h.1 rfl
    refine V_st (st' := []) rfl ?_
    refine V_aload (pc := 21) C dX7_group_21 0 rfl ?_
    refine V_callS (pc := 23) C (ct_X7_needPlanned hT hl h) g541 g542 g543 g33 ⟨by decide, by decide, pl_X7_needPlanned⟩ ⟨by decide, by decide⟩ (rest := []) rfl (le8 rfl) dX7_group_23 (fun v14 S13 h => ?_) (fun k9 S9 hk h => VX_out C htab hk (h.2 (by omega)))
    replace h := h.1 rfl
    refine V_st (st' := []) rfl ?_
    refine V_aload (pc := 26) C dX7_group_26 0 rfl ?_
    refine V_iload_n (pc := 28) C dX7_group_28 rfl 4 rfl ?_
    refine V_callS (pc := 29) C (ct_X7_needOldEnough hT hl h) g689 g690 g691 g33 ⟨by decide, by decide, pl_X7_needOldEnough⟩ ⟨by decide, by decide⟩ (rest := []) rfl (le8 rfl) dX7_group_29 (fun v17 S16 h => ?_) (fun k9 S9 hk h => VX_out C htab hk (h.2 (by omega)))
    replace h := h.1 rfl
    refine V_st (st' := []) rfl ?_
    refine V_aload_n (pc := 32) C dX7_group_32 rfl 1 rfl ?_
    refine V_iload_n (pc := 33) C dX7_group_33 rfl 3 rfl ?_
    refine V_callV (pc := 34) C (ct_X7_needTickets hT hl h) g693 g695 g21 g696 g33 ⟨by decide, by decide, pl_X7_needTickets⟩ (enc_ne63 (by decide)) (ct_obj hT rfl (by decide)) rfl ⟨by decide, by decide⟩ (rest := []) rfl (le8 rfl) dX7_group_34 (fun v20 S19 h => ?_) (fun k9 S9 hk h => VX_out C htab hk (h.2 (by omega)))
    replace h := h.1 rfl
    refine V_st (st' := []) rfl ?_
    refine V_aload (pc := 37) C dX7_group_37 0 rfl ?_
    refine V_iload_n (pc := 39) C dX7_group_39 rfl 3 rfl ?_
    refine V_callV (pc := 40) C (ct_X5_placeForGroup hT hl h) g706 g707 g708 g709 g52 ⟨by decide, by decide, pl_X5_placeForGroup⟩ (enc_ne63 (by decide)) (ct_obj hT rfl (by decide)) rfl ⟨by decide, by decide⟩ (rest := []) rfl (le8 rfl) dX7_group_40 (fun v23 S22 h => ?_) (fun k9 S9 hk h => VX_out C htab hk (h.2 (by omega)))
    replace h := h.1 rfl
    refine V_st (st' := [Value.int v23]) rfl ?_
    refine V_istore (pc := 43) C dX7_group_43 (by decide) rfl ?_
    refine V_iload (pc := 45) C dX7_group_45 0 rfl ?_
    refine V_iconst (pc := 47) C (v := (-1)) dX7_group_47 rfl ?_
    refine V_icmp_ne (pc := 48) (tgt := 61) C dX7_group_48 (by decide) h (fun h => ?_) (fun h => ?_)
    · refine V_aload_n (pc := 61) C dX7_group_61 rfl 2 rfl ?_
      refine V_getF (pc := 62) C hT f1_X7_5 g95 dX7_group_62 ?_
      refine V_callV (pc := 65) C (ct_size hT hl h) g200 g201 g202 g203 g36 ⟨by decide, by decide, pl_Jx4a65c_size_8abf5⟩ (enc_ne63 (by decide)) (ct_obj hT rfl (by decide)) rfl ⟨by decide, by decide⟩ (rest := []) rfl (le8 rfl) dX7_group_65 (fun v26 S25 h => ?_) (fun k9 S9 hk h => VX_out C htab hk (h.2 (by omega)))
      replace h := h.1 rfl
      refine V_st (st' := [Value.int v26]) rfl ?_
      refine V_istore (pc := 68) C dX7_group_68 (by decide) rfl ?_
      refine V_iconst (pc := 70) C (v := 0) dX7_group_70 rfl ?_
      refine V_istore (pc := 71) C dX7_group_71 (by decide) rfl ?_
      refine V_sub [4, 6, 7, 3, 2, 1, 0] rfl ?_
      obtain ⟨n9, h⟩ := h
      exact k_X7_group_73 hT hl C hr hnm htab  n9 h
    · exact V_throw (pc := 51) C htab (k9 := 2) (by decide) at_RX7_2 str_RX7_252 ⟨by decide, le8 rfl⟩ dX7_group_51 dX7_group_54 dX7_group_55 dX7_group_57 dX7_group_60 h
theorem pl_X7_needTicket : (parseMethodDescriptor yX7_needTicket.desc).map (fun d => d.parameters.length) = some 1 := by decide +kernel
def w_X7_needTicket_15  (Q : Nat → Int32 → Sg → Prop)  (S : Sg) : Prop := (S.2.1 + 1 ≤ nB1 ∧ S.2.2 + 6 ≤ nB2 ∧ Q 3 0 (tS S))
theorem k_X7_needTicket_15 (hT : xT X = tb1) (hl : l.stackTraces = false) (C : Cn X k0 p l R s m meth c cX7_needTicket RX7 2 6 82) (hr : meth.sig.returnType = none) (hnm : meth.name = yX7_needTicket.name) (htab : ∀ x ∈ c.exceptionTable.toList, False)   {S : Sg} (h : w_X7_needTicket_15  Qa  S) : V X p l e R s m args below meth c 2 (QM X below args s S0 ad0 rvV Qa) S0 ad0 S 15 [] [] := by
  exact V_throwW (pc := 15) C htab (k9 := 3) (by decide) at_RX7_3 str_RX7_354 ⟨by decide, le8 rfl⟩ dX7_needTicket_15 dX7_needTicket_18 dX7_needTicket_19 dX7_needTicket_22 dX7_needTicket_25 h
def w_X7_needTicket (a1 : Int32) (S : Sg) (Q : Nat → Int32 → Sg → Prop) : Prop := ((a1 < 0 → w_X7_needTicket_15  Q  S) ∧ (¬ a1 < 0 → (w_size 5 S (fun k3 v2 S1 => (k3 = 0 → ((a1 < v2 → Q 0 0 S1) ∧ (¬ a1 < v2 → w_X7_needTicket_15  Q  S1))) ∧ (¬ k3 = 0 → Q k3 0 S1)))))
theorem ct_X7_needTicket (hT : xT X = tb1) (hl : l.stackTraces = false) {a1 : Int32} {S : Sg} (h : w_X7_needTicket a1 S Qa) : CT X k0 l yX7_needTicket cX7_needTicket 2 none 6 82 [Value.ref (enc 0 0), Value.int a1] rvV S Qa :=
  CT_ofV (own := RX7) (by decide +kernel) (le8 rfl) rfl hl fun p e R s m args below meth c ad0 C hr hnm htab => by
    refine V_iload_n (pc := 0) C dX7_needTicket_0 rfl 1 rfl ?_
    refine V_if_lt (pc := 1) (tgt := 15) C dX7_needTicket_1 (by decide) h (fun h => ?_) (fun h => ?_)
    · refine V_sub [] rfl ?_
      exact k_X7_needTicket_15 hT hl C hr hnm htab  h
    · refine V_iload_n (pc := 4) C dX7_needTicket_4 rfl 1 rfl ?_
      refine V_aload_n (pc := 5) C dX7_needTicket_5 rfl 0 rfl ?_
      refine V_getF (pc := 6) C hT f1_X7_5 g95 dX7_needTicket_6 ?_
      refine V_callV (pc := 9) C (ct_size hT hl h) g200 g201 g202 g203 g36 ⟨by decide, by decide, pl_Jx4a65c_size_8abf5⟩ (enc_ne63 (by decide)) (ct_obj hT rfl (by decide)) rfl ⟨by decide, by decide⟩ (rest := [Value.int a1]) rfl (le8 rfl) dX7_needTicket_9 (fun v2 S1 h => ?_) (fun k9 S9 hk h => VX_out C htab hk (h.2 (by omega)))
      replace h := h.1 rfl
      refine V_st (st' := [Value.int v2, Value.int a1]) rfl ?_
      refine V_icmp_lt (pc := 12) (tgt := 26) C dX7_needTicket_12 (by decide) h (fun h => ?_) (fun h => ?_)
      · exact V_vret (pc := 26) C hr rfl h dX7_needTicket_26
      · refine V_sub [] rfl ?_
        exact k_X7_needTicket_15 hT hl C hr hnm htab  h
theorem pl_X7_ticketAt : (parseMethodDescriptor yX7_ticketAt.desc).map (fun d => d.parameters.length) = some 1 := by decide +kernel
def w_X7_ticketAt (a1 : Int32) (S : Sg) (Q : Nat → Int32 → Sg → Prop) : Prop := (w_X7_needTicket a1 S (fun k3 v2 S1 => (k3 = 0 → (w_get 5 a1 S1 (fun k6 v5 S4 => (k6 = 0 → Q 0 v5 S4) ∧ (¬ k6 = 0 → Q k6 0 S4)))) ∧ (¬ k3 = 0 → Q k3 0 S1)))
theorem ct_X7_ticketAt (hT : xT X = tb1) (hl : l.stackTraces = false) {a1 : Int32} {S : Sg} (h : w_X7_ticketAt a1 S Qa) : CT X k0 l yX7_ticketAt cX7_ticketAt 2 (some (.object "Platterhouse$Ticket")) 7 103 [Value.ref (enc 0 0), Value.int a1] (rvR 8) S Qa :=
  CT_ofV (own := RX7) (by decide +kernel) (le8 rfl) rfl hl fun p e R s m args below meth c ad0 C hr hnm htab => by
    refine V_aload_n (pc := 0) C dX7_ticketAt_0 rfl 0 rfl ?_
    refine V_iload_n (pc := 1) C dX7_ticketAt_1 rfl 1 rfl ?_
    refine V_callV (pc := 2) C (ct_X7_needTicket hT hl h) g728 g730 g25 g731 g33 ⟨by decide, by decide, pl_X7_needTicket⟩ (enc_ne63 (by decide)) (ct_obj hT rfl (by decide)) rfl ⟨by decide, by decide⟩ (rest := []) rfl (le8 rfl) dX7_ticketAt_2 (fun v2 S1 h => ?_) (fun k9 S9 hk h => VX_out C htab hk (h.2 (by omega)))
    replace h := h.1 rfl
    refine V_st (st' := []) rfl ?_
    refine V_aload_n (pc := 5) C dX7_ticketAt_5 rfl 0 rfl ?_
    refine V_getF (pc := 6) C hT f1_X7_5 g95 dX7_ticketAt_6 ?_
    refine V_iload_n (pc := 9) C dX7_ticketAt_9 rfl 1 rfl ?_
    refine V_callV (pc := 10) C (ct_get hT hl (by decide) h) g332 g333 g334 g335 g36 ⟨by decide, by decide, pl_Jx4a65c_get_915e3⟩ (enc_ne63 (by decide)) (ct_obj hT rfl (by decide)) rfl ⟨by decide, by decide⟩ (rest := []) rfl (le8 rfl) dX7_ticketAt_10 (fun v5 S4 h => ?_) (fun k9 S9 hk h => VX_out C htab hk (h.2 (by omega)))
    replace h := h.1 rfl
    refine V_st (st' := [Value.ref (enc 8 (nt v5))]) rfl ?_
    refine V_cast (pc := 13) C hT (by decide) rfl rfl g545 dX7_ticketAt_13 ?_
    exact V_aret (pc := 16) C hr rfl h dX7_ticketAt_16
theorem pl_X7_giveBack : (parseMethodDescriptor yX7_giveBack.desc).map (fun d => d.parameters.length) = some 1 := by decide +kernel
def w_X7_giveBack (a1 : Int32) (S : Sg) (Q : Nat → Int32 → Sg → Prop) : Prop := (w_X7_ticketAt a1 S (fun k3 v2 S1 => (k3 = 0 → (¬ S1.1 70 (nt v2) < 0 ∧ (w_X7_needPlanned (S1.1 70 (nt v2)) S1 (fun k6 v5 S4 => (k6 = 0 → (((S4.1 74 (nt v2)) = 0 → (∀ S7, S7 = su S4 74 (nt v2) 1 → (w_X6_payBack v2 (S7.1 73 (nt v2)) S7 (fun k10 v9 S8 => (k10 = 0 → (¬ S8.1 70 (nt v2) < 0 ∧ (w_X7_freePlace (S8.1 70 (nt v2)) (S8.1 71 (nt v2)) S8 (fun k13 v12 S11 => (k13 = 0 → Q 0 v9 S11) ∧ (¬ k13 = 0 → Q k13 0 S11))))) ∧ (¬ k10 = 0 → Q k10 0 S8))))) ∧ (¬ (S4.1 74 (nt v2)) = 0 → (S4.2.1 + 1 ≤ nB1 ∧ S4.2.2 + 6 ≤ nB2 ∧ Q 2 0 (tS S4))))) ∧ (¬ k6 = 0 → Q k6 0 S4))))) ∧ (¬ k3 = 0 → Q k3 0 S1)))
theorem ct_X7_giveBack (hT : xT X = tb1) (hl : l.stackTraces = false) {a1 : Int32} {S : Sg} (h : w_X7_giveBack a1 S Qa) : CT X k0 l yX7_giveBack cX7_giveBack 4 (some .int) 10 228 [Value.ref (enc 0 0), Value.int a1] rvI S Qa :=
  CT_ofV (own := RX7) (by decide +kernel) (le8 rfl) rfl hl fun p e R s m args below meth c ad0 C hr hnm htab => by
    refine V_aload_n (pc := 0) C dX7_giveBack_0 rfl 0 rfl ?_
    refine V_iload_n (pc := 1) C dX7_giveBack_1 rfl 1 rfl ?_
    refine V_callV (pc := 2) C (ct_X7_ticketAt hT hl h) g724 g726 g24 g727 g33 ⟨by decide, by decide, pl_X7_ticketAt⟩ (enc_ne63 (by decide)) (ct_obj hT rfl (by decide)) rfl ⟨by decide, by decide⟩ (rest := []) rfl (le8 rfl) dX7_giveBack_2 (fun v2 S1 h => ?_) (fun k9 S9 hk h => VX_out C htab hk (h.2 (by omega)))
    replace h := h.1 rfl
    refine V_st (st' := [Value.ref (enc 8 (nt v2))]) rfl ?_
    refine V_astore_n (pc := 5) C dX7_giveBack_5 rfl (by decide) rfl ?_
    refine V_aload_n (pc := 6) C dX7_giveBack_6 rfl 0 rfl ?_
    refine V_getR (pc := 7) C hT f1_X6_0 (by decide) g607 dX7_giveBack_7 h (fun h => ?_)
    refine V_callS (pc := 10) C (ct_X7_needPlanned hT hl h) g541 g542 g543 g33 ⟨by decide, by decide, pl_X7_needPlanned⟩ ⟨by decide, by decide⟩ (rest := []) rfl (le8 rfl) dX7_giveBack_10 (fun v5 S4 h => ?_) (fun k9 S9 hk h => VX_out C htab hk (h.2 (by omega)))
    replace h := h.1 rfl
    refine V_st (st' := []) rfl ?_
    refine V_aload_n (pc := 13) C dX7_giveBack_13 rfl 0 rfl ?_
    refine V_getI (pc := 14) C hT f1_X6_4 g615 dX7_giveBack_14 ?_
    refine V_if_eq (pc := 17) (tgt := 31) C dX7_giveBack_17 (by decide) h (fun h => ?_) (fun h => ?_)
    · refine V_aload_n (pc := 31) C dX7_giveBack_31 rfl 0 rfl ?_
      refine V_iconst (pc := 32) C (v := 1) dX7_giveBack_32 rfl ?_
      refine V_putI (pc := 33) C hT tb1_ok f1_X6_4 (by unfold lc; decide) g615 (Or.inl rfl) (Or.inr ⟨rfl, by decide⟩) dX7_giveBack_33 (V_nx fun S7 e9 => ?_)
      replace h := h S7 e9; clear e9
      refine V_aload_n (pc := 36) C dX7_giveBack_36 rfl 0 rfl ?_
      refine V_aload_n (pc := 37) C dX7_giveBack_37 rfl 0 rfl ?_
      refine V_getI (pc := 38) C hT f1_X6_3 g613 dX7_giveBack_38 ?_
      refine V_callV (pc := 41) C (ct_X6_payBack hT hl h) g546 g547 g548 g549 g54 ⟨by decide, by decide, pl_X6_payBack⟩ (enc_ne63 (by decide)) (ct_obj hT rfl (by decide)) rfl ⟨by decide, by decide⟩ (rest := []) rfl (le8 rfl) dX7_giveBack_41 (fun v9 S8 h => ?_) (fun k9 S9 hk h => VX_out C htab hk (h.2 (by omega)))
      replace h := h.1 rfl
      refine V_st (st' := [Value.int v9]) rfl ?_
      refine V_istore_n (pc := 44) C dX7_giveBack_44 rfl (by decide) rfl ?_
      refine V_aload_n (pc := 45) C dX7_giveBack_45 rfl 2 rfl ?_
      refine V_aload_n (pc := 46) C dX7_giveBack_46 rfl 1 rfl ?_
      refine V_getR (pc := 47) C hT f1_X6_0 (by decide) g607 dX7_giveBack_47 h (fun h => ?_)
      refine V_aload_n (pc := 50) C dX7_giveBack_50 rfl 1 rfl ?_
      refine V_getI (pc := 51) C hT f1_X6_1 g609 dX7_giveBack_51 ?_
      refine V_callV (pc := 54) C (ct_X7_freePlace hT hl h) g584 g586 g15 g587 g33 ⟨by decide, by decide, pl_X7_freePlace⟩ (enc_ne63 (by decide)) (ct_obj hT rfl (by decide)) rfl ⟨by decide, by decide⟩ (rest := []) rfl (le8 rfl) dX7_giveBack_54 (fun v12 S11 h => ?_) (fun k9 S9 hk h => VX_out C htab hk (h.2 (by omega)))
      replace h := h.1 rfl
      refine V_st (st' := [Value.int v12]) rfl ?_
      refine V_pop (pc := 57) C dX7_giveBack_57 rfl ?_
      refine V_iload_n (pc := 58) C dX7_giveBack_58 rfl 0 rfl ?_
      exact V_iret (pc := 59) C hr rfl h dX7_giveBack_59
    · exact V_throwW (pc := 20) C htab (k9 := 2) (by decide) at_RX7_2 str_RX7_258 ⟨by decide, le8 rfl⟩ dX7_giveBack_20 dX7_giveBack_23 dX7_giveBack_24 dX7_giveBack_27 dX7_giveBack_30 h
theorem pl_X7_join : (parseMethodDescriptor yX7_join.desc).map (fun d => d.parameters.length) = some 3 := by decide +kernel
def w_X7_join (a1 : Int32) (a2 : Int32) (a3 : Int32) (S : Sg) (Q : Nat → Int32 → Sg → Prop) : Prop := (w_X7_showAt a1 S (fun k3 v2 S1 => (k3 = 0 → (w_X7_needWithin a2 0 120 S1 (fun k6 v5 S4 => (k6 = 0 → (w_X7_needPlanned v2 S4 (fun k9 v8 S7 => (k9 = 0 → (w_X5_countFree v2 S7 (fun k12 v11 S10 => (k12 = 0 → ((v11 ≤ 0 → (w_X7_needOldEnough v2 a2 S10 (fun k15 v14 S13 => (k15 = 0 → (¬ S13.1 55 (nt v2) < 0 ∧ (((S13.1 82 (nt (S13.1 55 (nt v2)))) < 40 → (¬ S13.1 55 (nt v2) < 0 ∧ (w_X4_comeIn (S13.1 55 (nt v2)) a2 a3 S13 (fun k18 v17 S16 => (k18 = 0 → Q 0 v17 S16) ∧ (¬ k18 = 0 → Q k18 0 S16))))) ∧ (¬ (S13.1 82 (nt (S13.1 55 (nt v2)))) < 40 → (S13.2.1 + 1 ≤ nB1 ∧ S13.2.2 + 6 ≤ nB2 ∧ Q 2 0 (tS S13)))))) ∧ (¬ k15 = 0 → Q k15 0 S13)))) ∧ (¬ v11 ≤ 0 → (S10.2.1 + 1 ≤ nB1 ∧ S10.2.2 + 6 ≤ nB2 ∧ Q 2 0 (tS S10))))) ∧ (¬ k12 = 0 → Q k12 0 S10)))) ∧ (¬ k9 = 0 → Q k9 0 S7)))) ∧ (¬ k6 = 0 → Q k6 0 S4)))) ∧ (¬ k3 = 0 → Q k3 0 S1)))
theorem ct_X7_join (hT : xT X = tb1) (hl : l.stackTraces = false) {a1 : Int32} {a2 : Int32} {a3 : Int32} {S : Sg} (h : w_X7_join a1 a2 a3 S Qa) : CT X k0 l yX7_join cX7_join 5 (some .int) 7 104 [Value.ref (enc 0 0), Value.int a1, Value.int a2, Value.int a3] rvI S Qa :=
  CT_ofV (own := RX7) (by decide +kernel) (le8 rfl) rfl hl fun p e R s m args below meth c ad0 C hr hnm htab => by
    refine V_aload_n (pc := 0) C dX7_join_0 rfl 0 rfl ?_
    refine V_iload_n (pc := 1) C dX7_join_1 rfl 1 rfl ?_
    refine V_callV (pc := 2) C (ct_X7_showAt hT hl h) g536 g538 g11 g539 g33 ⟨by decide, by decide, pl_X7_showAt⟩ (enc_ne63 (by decide)) (ct_obj hT rfl (by decide)) rfl ⟨by decide, by decide⟩ (rest := []) rfl (le8 rfl) dX7_join_2 (fun v2 S1 h => ?_) (fun k9 S9 hk h => VX_out C htab hk (h.2 (by omega)))
    replace h := h.1 rfl
    refine V_st (st' := [Value.ref (enc 6 (nt v2))]) rfl ?_
    refine V_astore (pc := 5) C dX7_join_5 (by decide) rfl ?_
    refine V_iload_n (pc := 7) C dX7_join_7 rfl 3 rfl ?_
    refine V_iconst (pc := 8) C (v := 0) dX7_join_8 rfl ?_
    refine V_bipush (pc := 9) C (v := 120) dX7_join_9 rfl ?_
    refine V_callS (pc := 11) C (ct_X7_needWithin hT hl h) g129 g130 g131 g33 ⟨by decide, by decide, pl_X7_needWithin⟩ ⟨by decide, by decide⟩ (rest := []) rfl (le8 rfl) dX7_join_11 (fun v5 S4 h => ?_) (fun k9 S9 hk h => VX_out C htab hk (h.2 (by omega)))
    replace h := h.1 rfl
    refine V_st (st' := []) rfl ?_
    refine V_aload (pc := 14) C dX7_join_14 0 rfl ?_
    refine V_callS (pc := 16) C (ct_X7_needPlanned hT hl h) g541 g542 g543 g33 ⟨by decide, by decide, pl_X7_needPlanned⟩ ⟨by decide, by decide⟩ (rest := []) rfl (le8 rfl) dX7_join_16 (fun v8 S7 h => ?_) (fun k9 S9 hk h => VX_out C htab hk (h.2 (by omega)))
    replace h := h.1 rfl
    refine V_st (st' := []) rfl ?_
    refine V_aload (pc := 19) C dX7_join_19 0 rfl ?_
    refine V_callV (pc := 21) C (ct_X5_countFree hT hl h) g738 g739 g740 g741 g52 ⟨by decide, by decide, pl_X5_countFree⟩ (enc_ne63 (by decide)) (ct_obj hT rfl (by decide)) rfl ⟨by decide, by decide⟩ (rest := []) rfl (le8 rfl) dX7_join_21 (fun v11 S10 h => ?_) (fun k9 S9 hk h => VX_out C htab hk (h.2 (by omega)))
    replace h := h.1 rfl
    refine V_st (st' := [Value.int v11]) rfl ?_
    refine V_if_le (pc := 24) (tgt := 38) C dX7_join_24 (by decide) h (fun h => ?_) (fun h => ?_)
    · refine V_aload (pc := 38) C dX7_join_38 0 rfl ?_
      refine V_iload_n (pc := 40) C dX7_join_40 rfl 3 rfl ?_
      refine V_callS (pc := 41) C (ct_X7_needOldEnough hT hl h) g689 g690 g691 g33 ⟨by decide, by decide, pl_X7_needOldEnough⟩ ⟨by decide, by decide⟩ (rest := []) rfl (le8 rfl) dX7_join_41 (fun v14 S13 h => ?_) (fun k9 S9 hk h => VX_out C htab hk (h.2 (by omega)))
      replace h := h.1 rfl
      refine V_st (st' := []) rfl ?_
      refine V_aload (pc := 44) C dX7_join_44 0 rfl ?_
      refine V_getR (pc := 46) C hT f1_X5_5 (by decide) g509 dX7_join_46 h (fun h => ?_)
      refine V_getI (pc := 49) C hT f1_X4_2 g486 dX7_join_49 ?_
      refine V_bipush (pc := 52) C (v := 40) dX7_join_52 rfl ?_
      refine V_icmp_lt (pc := 54) (tgt := 68) C dX7_join_54 (by decide) h (fun h => ?_) (fun h => ?_)
      · refine V_aload (pc := 68) C dX7_join_68 0 rfl ?_
        refine V_getR (pc := 70) C hT f1_X5_5 (by decide) g509 dX7_join_70 h (fun h => ?_)
        refine V_iload_n (pc := 73) C dX7_join_73 rfl 3 rfl ?_
        refine V_iload_n (pc := 74) C dX7_join_74 rfl 4 rfl ?_
        refine V_callV (pc := 75) C (ct_X4_comeIn hT hl h) g744 g745 g746 g747 g53 ⟨by decide, by decide, pl_X4_comeIn⟩ (enc_ne63 (by decide)) (ct_obj hT rfl (by decide)) rfl ⟨by decide, by decide⟩ (rest := []) rfl (le8 rfl) dX7_join_75 (fun v17 S16 h => ?_) (fun k9 S9 hk h => VX_out C htab hk (h.2 (by omega)))
        replace h := h.1 rfl
        refine V_st (st' := [Value.int v17]) rfl ?_
        exact V_iret (pc := 78) C hr rfl h dX7_join_78
      · exact V_throwW (pc := 57) C htab (k9 := 2) (by decide) at_RX7_2 str_RX7_272 ⟨by decide, le8 rfl⟩ dX7_join_57 dX7_join_60 dX7_join_61 dX7_join_64 dX7_join_67 h
    · exact V_throwW (pc := 27) C htab (k9 := 2) (by decide) at_RX7_2 str_RX7_268 ⟨by decide, le8 rfl⟩ dX7_join_27 dX7_join_30 dX7_join_31 dX7_join_34 dX7_join_37 h
theorem pl_X7_fits : (parseMethodDescriptor yX7_fits.desc).map (fun d => d.parameters.length) = some 3 := by decide +kernel
def w_X7_fits (a1 : Int32) (a2 : Int32) (a3 : Int32) (S : Sg) (Q : Nat → Int32 → Sg → Prop) : Prop := (w_X7_filmAt a1 S (fun k3 v2 S1 => (k3 = 0 → (w_X7_hallAt a2 S1 (fun k6 v5 S4 => (k6 = 0 → (w_X7_needWithin a3 ((S4.1 6 0) + 1) 100000 S4 (fun k9 v8 S7 => (k9 = 0 → (w_X7_reasonAgainst v2 v5 a3 S7 (fun k12 v11 S10 => (k12 = 0 → Q 0 v11 S10) ∧ (¬ k12 = 0 → Q k12 0 S10)))) ∧ (¬ k9 = 0 → Q k9 0 S7)))) ∧ (¬ k6 = 0 → Q k6 0 S4)))) ∧ (¬ k3 = 0 → Q k3 0 S1)))
theorem ct_X7_fits (hT : xT X = tb1) (hl : l.stackTraces = false) {a1 : Int32} {a2 : Int32} {a3 : Int32} {S : Sg} (h : w_X7_fits a1 a2 a3 S Qa) : CT X k0 l yX7_fits cX7_fits 6 (some .int) 7 130 [Value.ref (enc 0 0), Value.int a1, Value.int a2, Value.int a3] rvI S Qa :=
  CT_ofV (own := RX7) (by decide +kernel) (le8 rfl) rfl hl fun p e R s m args below meth c ad0 C hr hnm htab => by
    refine V_aload_n (pc := 0) C dX7_fits_0 rfl 0 rfl ?_
    refine V_iload_n (pc := 1) C dX7_fits_1 rfl 1 rfl ?_
    refine V_callV (pc := 2) C (ct_X7_filmAt hT hl h) g400 g402 g5 g403 g33 ⟨by decide, by decide, pl_X7_filmAt⟩ (enc_ne63 (by decide)) (ct_obj hT rfl (by decide)) rfl ⟨by decide, by decide⟩ (rest := []) rfl (le8 rfl) dX7_fits_2 (fun v2 S1 h => ?_) (fun k9 S9 hk h => VX_out C htab hk (h.2 (by omega)))
    replace h := h.1 rfl
    refine V_st (st' := [Value.ref (enc 4 (nt v2))]) rfl ?_
    refine V_astore (pc := 5) C dX7_fits_5 (by decide) rfl ?_
    refine V_aload_n (pc := 7) C dX7_fits_7 rfl 1 rfl ?_
    refine V_iload_n (pc := 8) C dX7_fits_8 rfl 3 rfl ?_
    refine V_callV (pc := 9) C (ct_X7_hallAt hT hl h) g312 g314 g4 g315 g33 ⟨by decide, by decide, pl_X7_hallAt⟩ (enc_ne63 (by decide)) (ct_obj hT rfl (by decide)) rfl ⟨by decide, by decide⟩ (rest := []) rfl (le8 rfl) dX7_fits_9 (fun v5 S4 h => ?_) (fun k9 S9 hk h => VX_out C htab hk (h.2 (by omega)))
    replace h := h.1 rfl
    refine V_st (st' := [Value.ref (enc 3 (nt v5))]) rfl ?_
    refine V_astore (pc := 12) C dX7_fits_12 (by decide) rfl ?_
    refine V_iload_n (pc := 14) C dX7_fits_14 rfl 5 rfl ?_
    refine V_aload_n (pc := 15) C dX7_fits_15 rfl 2 rfl ?_
    refine V_getI (pc := 16) C hT f1_X7_6 g96 dX7_fits_16 ?_
    refine V_iconst (pc := 19) C (v := 1) dX7_fits_19 rfl ?_
    refine V_iadd (pc := 20) C dX7_fits_20 ?_
    refine V_ldc (pc := 21) C g346 dX7_fits_21 ?_
    refine V_callS (pc := 23) C (ct_X7_needWithin hT hl h) g129 g130 g131 g33 ⟨by decide, by decide, pl_X7_needWithin⟩ ⟨by decide, by decide⟩ (rest := []) rfl (le8 rfl) dX7_fits_23 (fun v8 S7 h => ?_) (fun k9 S9 hk h => VX_out C htab hk (h.2 (by omega)))
    replace h := h.1 rfl
    refine V_st (st' := []) rfl ?_
    refine V_aload_n (pc := 26) C dX7_fits_26 rfl 2 rfl ?_
    refine V_aload (pc := 27) C dX7_fits_27 1 rfl ?_
    refine V_aload (pc := 29) C dX7_fits_29 0 rfl ?_
    refine V_iload_n (pc := 31) C dX7_fits_31 rfl 5 rfl ?_
    refine V_callV (pc := 32) C (ct_X7_reasonAgainst hT hl h) g439 g441 g6 g442 g33 ⟨by decide, by decide, pl_X7_reasonAgainst⟩ (enc_ne63 (by decide)) (ct_obj hT rfl (by decide)) rfl ⟨by decide, by decide⟩ (rest := []) rfl (le8 rfl) dX7_fits_32 (fun v11 S10 h => ?_) (fun k9 S9 hk h => VX_out C htab hk (h.2 (by omega)))
    replace h := h.1 rfl
    refine V_st (st' := [Value.int v11]) rfl ?_
    exact V_iret (pc := 35) C hr rfl h dX7_fits_35
theorem pl_X7_nextChance : (parseMethodDescriptor yX7_nextChance.desc).map (fun d => d.parameters.length) = some 1 := by decide +kernel
def w_X7_nextChance_45  (Q : Nat → Int32 → Sg → Prop) : Nat → Int32 → Int32 → Int32 → Sg → Prop
  | 0, _, _, _, _ => False
  | n + 1, x1, x2, x3, S => (w_size 3 S (fun k3 v2 S1 => (k3 = 0 → ((v2 ≤ x3 → Q 0 x2 S1) ∧ (¬ v2 ≤ x3 → (w_get 3 x3 S1 (fun k6 v5 S4 => (k6 = 0 → (w_X5_end v5 S4 (fun k9 v8 S7 => (k9 = 0 → (w_X7_nearerAhead x1 x2 (v8 + 20) S7 (fun k12 v11 S10 => (k12 = 0 → (w_X7_nearerAhead x1 v11 ((S10.1 53 (nt v5)) + (S10.1 7 0)) S10 (fun k15 v14 S13 => (k15 = 0 → w_X7_nextChance_45  Q n x1 v14 (x3 + 1) S13) ∧ (¬ k15 = 0 → Q k15 0 S13)))) ∧ (¬ k12 = 0 → Q k12 0 S10)))) ∧ (¬ k9 = 0 → Q k9 0 S7)))) ∧ (¬ k6 = 0 → Q k6 0 S4)))))) ∧ (¬ k3 = 0 → Q k3 0 S1)))
theorem k_X7_nextChance_45 (hT : xT X = tb1) (hl : l.stackTraces = false) (C : Cn X k0 p l R s m meth c cX7_nextChance RX7 5 4 81) (hr : meth.sig.returnType = (some .int)) (hnm : meth.name = yX7_nextChance.name) (htab : ∀ x ∈ c.exceptionTable.toList, False)  : ∀ n {x1 : Int32} {x2 : Int32} {x3 : Int32} {S : Sg}, w_X7_nextChance_45  Qa n x1 x2 x3 S → V X p l e R s m args below meth c 5 (QM X below args s S0 ad0 rvI Qa) S0 ad0 S 45 [(0, Value.ref (enc 0 0)), (1, Value.int x1), (2, Value.int x2), (3, Value.int x3)] [] := by
  intro n
  induction n with
  | zero => intro x1 x2 x3 S h; exact h.elim
  | succ n ih =>
    intro x1 x2 x3 S h
    refine V_iload_n (pc := 45) C dX7_nextChance_45 rfl 3 rfl ?_
    refine V_aload_n (pc := 46) C dX7_nextChance_46 rfl 0 rfl ?_
    refine V_getF (pc := 47) C hT f1_X7_3 g93 dX7_nextChance_47 ?_
    refine V_callV (pc := 50) C (ct_size hT hl h) g200 g201 g202 g203 g36 ⟨by decide, by decide, pl_Jx4a65c_size_8abf5⟩ (enc_ne63 (by decide)) (ct_obj hT rfl (by decide)) rfl ⟨by decide, by decide⟩ (rest := [Value.int x3]) rfl (le8 rfl) dX7_nextChance_50 (fun v2 S1 h => ?_) (fun k9 S9 hk h => VX_out C htab hk (h.2 (by omega)))
    replace h := h.1 rfl
    refine V_st (st' := [Value.int v2, Value.int x3]) rfl ?_
    refine V_icmp_ge (pc := 53) (tgt := 105) C dX7_nextChance_53 (by decide) h (fun h => ?_) (fun h => ?_)
    · refine V_iload_n (pc := 105) C dX7_nextChance_105 rfl 2 rfl ?_
      exact V_iret (pc := 106) C hr rfl h dX7_nextChance_106
    · refine V_aload_n (pc := 56) C dX7_nextChance_56 rfl 0 rfl ?_
      refine V_getF (pc := 57) C hT f1_X7_3 g93 dX7_nextChance_57 ?_
      refine V_iload_n (pc := 60) C dX7_nextChance_60 rfl 3 rfl ?_
      refine V_callV (pc := 61) C (ct_get hT hl (by decide) h) g332 g333 g334 g335 g36 ⟨by decide, by decide, pl_Jx4a65c_get_915e3⟩ (enc_ne63 (by decide)) (ct_obj hT rfl (by decide)) rfl ⟨by decide, by decide⟩ (rest := []) rfl (le8 rfl) dX7_nextChance_61 (fun v5 S4 h => ?_) (fun k9 S9 hk h => VX_out C htab hk (h.2 (by omega)))
      replace h := h.1 rfl
      refine V_st (st' := [Value.ref (enc 6 (nt v5))]) rfl ?_
      refine V_cast (pc := 64) C hT (by decide) rfl rfl g451 dX7_nextChance_64 ?_
      refine V_astore (pc := 67) C dX7_nextChance_67 (by decide) rfl ?_
      refine V_iload_n (pc := 69) C dX7_nextChance_69 rfl 2 rfl ?_
      refine V_iload_n (pc := 70) C dX7_nextChance_70 rfl 3 rfl ?_
      refine V_aload (pc := 71) C dX7_nextChance_71 0 rfl ?_
      refine V_callV (pc := 73) C (ct_X5_end hT hl h) g456 g457 g458 g459 g52 ⟨by decide, by decide, pl_X5_end⟩ (enc_ne63 (by decide)) (ct_obj hT rfl (by decide)) rfl ⟨by decide, by decide⟩ (rest := [Value.int x2, Value.int x1]) rfl (le8 rfl) dX7_nextChance_73 (fun v8 S7 h => ?_) (fun k9 S9 hk h => VX_out C htab hk (h.2 (by omega)))
      replace h := h.1 rfl
      refine V_st (st' := [Value.int v8, Value.int x2, Value.int x1]) rfl ?_
      refine V_bipush (pc := 76) C (v := 20) dX7_nextChance_76 rfl ?_
      refine V_iadd (pc := 78) C dX7_nextChance_78 ?_
      refine V_callS (pc := 79) C (ct_X7_nearerAhead hT hl h) g573 g574 g575 g33 ⟨by decide, by decide, pl_X7_nearerAhead⟩ ⟨by decide, by decide⟩ (rest := []) rfl (le8 rfl) dX7_nextChance_79 (fun v11 S10 h => ?_) (fun k9 S9 hk h => VX_out C htab hk (h.2 (by omega)))
      replace h := h.1 rfl
      refine V_st (st' := [Value.int v11]) rfl ?_
      refine V_istore_n (pc := 82) C dX7_nextChance_82 rfl (by decide) rfl ?_
      refine V_iload_n (pc := 83) C dX7_nextChance_83 rfl 3 rfl ?_
      refine V_iload_n (pc := 84) C dX7_nextChance_84 rfl 0 rfl ?_
      refine V_aload (pc := 85) C dX7_nextChance_85 1 rfl ?_
      refine V_getI (pc := 87) C hT f1_X5_3 g505 dX7_nextChance_87 ?_
      refine V_aload_n (pc := 90) C dX7_nextChance_90 rfl 2 rfl ?_
      refine V_getI (pc := 91) C hT f1_X7_7 g97 dX7_nextChance_91 ?_
      refine V_iadd (pc := 94) C dX7_nextChance_94 ?_
      refine V_callS (pc := 95) C (ct_X7_nearerAhead hT hl h) g573 g574 g575 g33 ⟨by decide, by decide, pl_X7_nearerAhead⟩ ⟨by decide, by decide⟩ (rest := []) rfl (le8 rfl) dX7_nextChance_95 (fun v14 S13 h => ?_) (fun k9 S9 hk h => VX_out C htab hk (h.2 (by omega)))
      replace h := h.1 rfl
      refine V_st (st' := [Value.int v14]) rfl ?_
      refine V_istore_n (pc := 98) C dX7_nextChance_98 rfl (by decide) rfl ?_
      refine V_iinc (pc := 99) C (a := 4) (v := x3 + 1) dX7_nextChance_99 rfl rfl (by decide) rfl ?_
      refine V_goto (pc := 102) (tgt := 45) C dX7_nextChance_102 (by decide) ?_
      refine V_sub [3, 4, 1, 0] rfl ?_
      exact ih h
def w_X7_nextChance_6  (Q : Nat → Int32 → Sg → Prop) : Nat → Int32 → Int32 → Int32 → Sg → Prop
  | 0, _, _, _, _ => False
  | n + 1, x1, x2, x3, S => (w_size 2 S (fun k18 v17 S16 => (k18 = 0 → ((v17 ≤ x3 → ∃ n9, w_X7_nextChance_45  Q n9 x1 x2 0 S16) ∧ (¬ v17 ≤ x3 → (w_get 2 x3 S16 (fun k21 v20 S19 => (k21 = 0 → (w_X7_nearerAhead x1 x2 (S19.1 42 (nt v20)) S19 (fun k24 v23 S22 => (k24 = 0 → w_X7_nextChance_6  Q n x1 v23 (x3 + 1) S22) ∧ (¬ k24 = 0 → Q k24 0 S22)))) ∧ (¬ k21 = 0 → Q k21 0 S19)))))) ∧ (¬ k18 = 0 → Q k18 0 S16)))
theorem k_X7_nextChance_6 (hT : xT X = tb1) (hl : l.stackTraces = false) (C : Cn X k0 p l R s m meth c cX7_nextChance RX7 5 4 81) (hr : meth.sig.returnType = (some .int)) (hnm : meth.name = yX7_nextChance.name) (htab : ∀ x ∈ c.exceptionTable.toList, False)  : ∀ n {x1 : Int32} {x2 : Int32} {x3 : Int32} {S : Sg}, w_X7_nextChance_6  Qa n x1 x2 x3 S → V X p l e R s m args below meth c 5 (QM X below args s S0 ad0 rvI Qa) S0 ad0 S 6 [(0, Value.ref (enc 0 0)), (1, Value.int x1), (2, Value.int x2), (3, Value.int x3)] [] := by
  intro n
  induction n with
  | zero => intro x1 x2 x3 S h; exact h.elim
  | succ n ih =>
    intro x1 x2 x3 S h
    refine V_iload_n (pc := 6) C dX7_nextChance_6 rfl 3 rfl ?_
    refine V_aload_n (pc := 7) C dX7_nextChance_7 rfl 0 rfl ?_
    refine V_getF (pc := 8) C hT f1_X7_2 g92 dX7_nextChance_8 ?_
    refine V_callV (pc := 11) C (ct_size hT hl h) g200 g201 g202 g203 g36 ⟨by decide, by decide, pl_Jx4a65c_size_8abf5⟩ (enc_ne63 (by decide)) (ct_obj hT rfl (by decide)) rfl ⟨by decide, by decide⟩ (rest := [Value.int x3]) rfl (le8 rfl) dX7_nextChance_11 (fun v17 S16 h => ?_) (fun k9 S9 hk h => VX_out C htab hk (h.2 (by omega)))
    replace h := h.1 rfl
    refine V_st (st' := [Value.int v17, Value.int x3]) rfl ?_
    refine V_icmp_ge (pc := 14) (tgt := 43) C dX7_nextChance_14 (by decide) h (fun h => ?_) (fun h => ?_)
    · refine V_iconst (pc := 43) C (v := 0) dX7_nextChance_43 rfl ?_
      refine V_istore_n (pc := 44) C dX7_nextChance_44 rfl (by decide) rfl ?_
      refine V_sub [1, 2, 3, 0] rfl ?_
      obtain ⟨n9, h⟩ := h
      exact k_X7_nextChance_45 hT hl C hr hnm htab  n9 h
    · refine V_iload_n (pc := 17) C dX7_nextChance_17 rfl 1 rfl ?_
      refine V_iload_n (pc := 18) C dX7_nextChance_18 rfl 2 rfl ?_
      refine V_aload_n (pc := 19) C dX7_nextChance_19 rfl 0 rfl ?_
      refine V_getF (pc := 20) C hT f1_X7_2 g92 dX7_nextChance_20 ?_
      refine V_iload_n (pc := 23) C dX7_nextChance_23 rfl 3 rfl ?_
      refine V_callV (pc := 24) C (ct_get hT hl (by decide) h) g332 g333 g334 g335 g36 ⟨by decide, by decide, pl_Jx4a65c_get_915e3⟩ (enc_ne63 (by decide)) (ct_obj hT rfl (by decide)) rfl ⟨by decide, by decide⟩ (rest := [Value.int x2, Value.int x1]) rfl (le8 rfl) dX7_nextChance_24 (fun v20 S19 h => ?_) (fun k9 S9 hk h => VX_out C htab hk (h.2 (by omega)))
      replace h := h.1 rfl
      refine V_st (st' := [Value.ref (enc 5 (nt v20)), Value.int x2, Value.int x1]) rfl ?_
      refine V_cast (pc := 27) C hT (by decide) rfl rfl g407 dX7_nextChance_27 ?_
      refine V_getI (pc := 30) C hT f1_X3_2 g418 dX7_nextChance_30 ?_
      refine V_callS (pc := 33) C (ct_X7_nearerAhead hT hl h) g573 g574 g575 g33 ⟨by decide, by decide, pl_X7_nearerAhead⟩ ⟨by decide, by decide⟩ (rest := []) rfl (le8 rfl) dX7_nextChance_33 (fun v23 S22 h => ?_) (fun k9 S9 hk h => VX_out C htab hk (h.2 (by omega)))
      replace h := h.1 rfl
      refine V_st (st' := [Value.int v23]) rfl ?_
      refine V_istore_n (pc := 36) C dX7_nextChance_36 rfl (by decide) rfl ?_
      refine V_iinc (pc := 37) C (a := 3) (v := x3 + 1) dX7_nextChance_37 rfl rfl (by decide) rfl ?_
      refine V_goto (pc := 40) (tgt := 6) C dX7_nextChance_40 (by decide) ?_
      refine V_sub [2, 3, 1, 0] rfl ?_
      exact ih h
def w_X7_nextChance (a1 : Int32) (S : Sg) (Q : Nat → Int32 → Sg → Prop) : Prop := ∃ n9, w_X7_nextChance_6  Q n9 a1 100001 0 S
theorem ct_X7_nextChance (hT : xT X = tb1) (hl : l.stackTraces = false) {a1 : Int32} {S : Sg} (h : w_X7_nextChance a1 S Qa) : CT X k0 l yX7_nextChance cX7_nextChance 5 (some .int) 4 81 [Value.ref (enc 0 0), Value.int a1] rvI S Qa :=
  CT_ofV (own := RX7) (by decide +kernel) (le8 rfl) rfl hl fun p e R s m args below meth c ad0 C hr hnm htab => by
    refine V_ldcw (pc := 0) C g760 dX7_nextChance_0 ?_
    refine V_istore_n (pc := 3) C dX7_nextChance_3 rfl (by decide) rfl ?_
    refine V_iconst (pc := 4) C (v := 0) dX7_nextChance_4 rfl ?_
    refine V_istore_n (pc := 5) C dX7_nextChance_5 rfl (by decide) rfl ?_
    refine V_sub [2, 3, 1, 0] rfl ?_
    obtain ⟨n9, h⟩ := h
    exact k_X7_nextChance_6 hT hl C hr hnm htab  n9 h
theorem pl_X7_first : (parseMethodDescriptor yX7_first.desc).map (fun d => d.parameters.length) = some 3 := by decide +kernel
def w_X7_first_44  (Q : Nat → Int32 → Sg → Prop) : Nat → Int32 → Int32 → Int32 → Int32 → Int32 → Sg → Prop
  | 0, _, _, _, _, _, _ => False
  | n + 1, x4, x5, x6, x7, x8, S => ((10080 < x8 → Q 0 (-1) S) ∧ (¬ 10080 < x8 → ((x6 < x7 → Q 0 (-1) S) ∧ (¬ x6 < x7 → (w_X7_reasonAgainst x4 x5 x7 S (fun k3 v2 S1 => (k3 = 0 → ((v2 = 0 → Q 0 x7 S1) ∧ (¬ v2 = 0 → (w_X7_nextChance x7 S1 (fun k6 v5 S4 => (k6 = 0 → w_X7_first_44  Q n x4 x5 x6 v5 (x8 + 1) S4) ∧ (¬ k6 = 0 → Q k6 0 S4)))))) ∧ (¬ k3 = 0 → Q k3 0 S1)))))))
theorem k_X7_first_44 (hT : xT X = tb1) (hl : l.stackTraces = false) (C : Cn X k0 p l R s m meth c cX7_first RX7 9 7 130) (hr : meth.sig.returnType = (some .int)) (hnm : meth.name = yX7_first.name) (htab : ∀ x ∈ c.exceptionTable.toList, False)  : ∀ n {x4 : Int32} {x5 : Int32} {x6 : Int32} {x7 : Int32} {x8 : Int32} {S : Sg}, w_X7_first_44  Qa n x4 x5 x6 x7 x8 S → V X p l e R s m args below meth c 9 (QM X below args s S0 ad0 rvI Qa) S0 ad0 S 44 [(0, Value.ref (enc 0 0)), (4, Value.ref (enc 4 (nt x4))), (5, Value.ref (enc 3 (nt x5))), (6, Value.int x6), (7, Value.int x7), (8, Value.int x8)] [] := by
  intro n
  induction n with
  | zero => intro x4 x5 x6 x7 x8 S h; exact h.elim
  | succ n ih =>
    intro x4 x5 x6 x7 x8 S h
    refine V_iload (pc := 44) C dX7_first_44 5 rfl ?_
    refine V_sipush (pc := 46) C (v := 10080) dX7_first_46 rfl ?_
    refine V_icmp_gt (pc := 49) (tgt := 89) C dX7_first_49 (by decide) h (fun h => ?_) (fun h => ?_)
    · refine V_iconst (pc := 89) C (v := (-1)) dX7_first_89 rfl ?_
      exact V_iret (pc := 90) C hr rfl h dX7_first_90
    · refine V_iload (pc := 52) C dX7_first_52 4 rfl ?_
      refine V_iload (pc := 54) C dX7_first_54 3 rfl ?_
      refine V_icmp_gt (pc := 56) (tgt := 89) C dX7_first_56 (by decide) h (fun h => ?_) (fun h => ?_)
      · refine V_iconst (pc := 89) C (v := (-1)) dX7_first_89 rfl ?_
        exact V_iret (pc := 90) C hr rfl h dX7_first_90
      · refine V_aload_n (pc := 59) C dX7_first_59 rfl 0 rfl ?_
        refine V_aload (pc := 60) C dX7_first_60 1 rfl ?_
        refine V_aload (pc := 62) C dX7_first_62 2 rfl ?_
        refine V_iload (pc := 64) C dX7_first_64 4 rfl ?_
        refine V_callV (pc := 66) C (ct_X7_reasonAgainst hT hl h) g439 g441 g6 g442 g33 ⟨by decide, by decide, pl_X7_reasonAgainst⟩ (enc_ne63 (by decide)) (ct_obj hT rfl (by decide)) rfl ⟨by decide, by decide⟩ (rest := []) rfl (le8 rfl) dX7_first_66 (fun v2 S1 h => ?_) (fun k9 S9 hk h => VX_out C htab hk (h.2 (by omega)))
        replace h := h.1 rfl
        refine V_st (st' := [Value.int v2]) rfl ?_
        refine V_if_ne (pc := 69) (tgt := 75) C dX7_first_69 (by decide) h (fun h => ?_) (fun h => ?_)
        · refine V_aload_n (pc := 75) C dX7_first_75 rfl 0 rfl ?_
          refine V_iload (pc := 76) C dX7_first_76 4 rfl ?_
          refine V_callV (pc := 78) C (ct_X7_nextChance hT hl h) g756 g758 g26 g759 g33 ⟨by decide, by decide, pl_X7_nextChance⟩ (enc_ne63 (by decide)) (ct_obj hT rfl (by decide)) rfl ⟨by decide, by decide⟩ (rest := []) rfl (le8 rfl) dX7_first_78 (fun v5 S4 h => ?_) (fun k9 S9 hk h => VX_out C htab hk (h.2 (by omega)))
          replace h := h.1 rfl
          refine V_st (st' := [Value.int v5]) rfl ?_
          refine V_istore (pc := 81) C dX7_first_81 (by decide) rfl ?_
          refine V_iinc (pc := 83) C (a := 5) (v := x8 + 1) dX7_first_83 rfl rfl (by decide) rfl ?_
          refine V_goto (pc := 86) (tgt := 44) C dX7_first_86 (by decide) ?_
          refine V_sub [2, 3, 4, 5, 1, 0] rfl ?_
          exact ih h
        · refine V_iload (pc := 72) C dX7_first_72 4 rfl ?_
          exact V_iret (pc := 74) C hr rfl h dX7_first_74
def w_X7_first (a1 : Int32) (a2 : Int32) (a3 : Int32) (S : Sg) (Q : Nat → Int32 → Sg → Prop) : Prop := (w_X7_filmAt a1 S (fun k9 v8 S7 => (k9 = 0 → (w_X7_hallAt a2 S7 (fun k12 v11 S10 => (k12 = 0 → (w_X7_needWithin a3 ((S10.1 6 0) + 1) 100000 S10 (fun k15 v14 S13 => (k15 = 0 → (w_J9_min_7cf53 (a3 + 10080) 100000 S13 (fun k18 v17 S16 => (k18 = 0 → ∃ n9, w_X7_first_44  Q n9 v8 v11 v17 a3 0 S16) ∧ (¬ k18 = 0 → Q k18 0 S16)))) ∧ (¬ k15 = 0 → Q k15 0 S13)))) ∧ (¬ k12 = 0 → Q k12 0 S10)))) ∧ (¬ k9 = 0 → Q k9 0 S7)))
theorem ct_X7_first (hT : xT X = tb1) (hl : l.stackTraces = false) {a1 : Int32} {a2 : Int32} {a3 : Int32} {S : Sg} (h : w_X7_first a1 a2 a3 S Qa) : CT X k0 l yX7_first cX7_first 9 (some .int) 7 130 [Value.ref (enc 0 0), Value.int a1, Value.int a2, Value.int a3] rvI S Qa :=
  CT_ofV (own := RX7) (by decide +kernel) (le8 rfl) rfl hl fun p e R s m args below meth c ad0 C hr hnm htab => by
    refine V_aload_n (pc := 0) C dX7_first_0 rfl 0 rfl ?_
    refine V_iload_n (pc := 1) C dX7_first_1 rfl 1 rfl ?_
    refine V_callV (pc := 2) C (ct_X7_filmAt hT hl h) g400 g402 g5 g403 g33 ⟨by decide, by decide, pl_X7_filmAt⟩ (enc_ne63 (by decide)) (ct_obj hT rfl (by decide)) rfl ⟨by decide, by decide⟩ (rest := []) rfl (le8 rfl) dX7_first_2 (fun v8 S7 h => ?_) (fun k9 S9 hk h => VX_out C htab hk (h.2 (by omega)))
    replace h := h.1 rfl
    refine V_st (st' := [Value.ref (enc 4 (nt v8))]) rfl ?_
    refine V_astore (pc := 5) C dX7_first_5 (by decide) rfl ?_
    refine V_aload_n (pc := 7) C dX7_first_7 rfl 1 rfl ?_
    refine V_iload_n (pc := 8) C dX7_first_8 rfl 3 rfl ?_
    refine V_callV (pc := 9) C (ct_X7_hallAt hT hl h) g312 g314 g4 g315 g33 ⟨by decide, by decide, pl_X7_hallAt⟩ (enc_ne63 (by decide)) (ct_obj hT rfl (by decide)) rfl ⟨by decide, by decide⟩ (rest := []) rfl (le8 rfl) dX7_first_9 (fun v11 S10 h => ?_) (fun k9 S9 hk h => VX_out C htab hk (h.2 (by omega)))
    replace h := h.1 rfl
    refine V_st (st' := [Value.ref (enc 3 (nt v11))]) rfl ?_
    refine V_astore (pc := 12) C dX7_first_12 (by decide) rfl ?_
    refine V_iload_n (pc := 14) C dX7_first_14 rfl 5 rfl ?_
    refine V_aload_n (pc := 15) C dX7_first_15 rfl 2 rfl ?_
    refine V_getI (pc := 16) C hT f1_X7_6 g96 dX7_first_16 ?_
    refine V_iconst (pc := 19) C (v := 1) dX7_first_19 rfl ?_
    refine V_iadd (pc := 20) C dX7_first_20 ?_
    refine V_ldc (pc := 21) C g346 dX7_first_21 ?_
    refine V_callS (pc := 23) C (ct_X7_needWithin hT hl h) g129 g130 g131 g33 ⟨by decide, by decide, pl_X7_needWithin⟩ ⟨by decide, by decide⟩ (rest := []) rfl (le8 rfl) dX7_first_23 (fun v14 S13 h => ?_) (fun k9 S9 hk h => VX_out C htab hk (h.2 (by omega)))
    replace h := h.1 rfl
    refine V_st (st' := []) rfl ?_
    refine V_iload_n (pc := 26) C dX7_first_26 rfl 5 rfl ?_
    refine V_sipush (pc := 27) C (v := 10080) dX7_first_27 rfl ?_
    refine V_iadd (pc := 30) C dX7_first_30 ?_
    refine V_ldc (pc := 31) C g346 dX7_first_31 ?_
    refine V_callS (pc := 33) C (ct_J9_min_7cf53 hT hl h) g649 g301 g302 g44 ⟨by decide, by decide, pl_J9_min_7cf53⟩ ⟨by decide, by decide⟩ (rest := []) rfl (le8 rfl) dX7_first_33 (fun v17 S16 h => ?_) (fun k9 S9 hk h => VX_out C htab hk (h.2 (by omega)))
    replace h := h.1 rfl
    refine V_st (st' := [Value.int v17]) rfl ?_
    refine V_istore (pc := 36) C dX7_first_36 (by decide) rfl ?_
    refine V_iload_n (pc := 38) C dX7_first_38 rfl 6 rfl ?_
    refine V_istore (pc := 39) C dX7_first_39 (by decide) rfl ?_
    refine V_iconst (pc := 41) C (v := 0) dX7_first_41 rfl ?_
    refine V_istore (pc := 42) C dX7_first_42 (by decide) rfl ?_
    refine V_sub [5, 4, 3, 2, 1, 0] rfl ?_
    obtain ⟨n9, h⟩ := h
    exact k_X7_first_44 hT hl C hr hnm htab  n9 h
theorem pl_X7_price : (parseMethodDescriptor yX7_price.desc).map (fun d => d.parameters.length) = some 2 := by decide +kernel
def w_X7_price (a1 : Int32) (a2 : Int32) (S : Sg) (Q : Nat → Int32 → Sg → Prop) : Prop := (w_X7_showAt a1 S (fun k3 v2 S1 => (k3 = 0 → (w_X7_needWithin a2 0 120 S1 (fun k6 v5 S4 => (k6 = 0 → (w_X5_priceFor v2 a2 S4 (fun k9 v8 S7 => (k9 = 0 → Q 0 v8 S7) ∧ (¬ k9 = 0 → Q k9 0 S7)))) ∧ (¬ k6 = 0 → Q k6 0 S4)))) ∧ (¬ k3 = 0 → Q k3 0 S1)))
theorem ct_X7_price (hT : xT X = tb1) (hl : l.stackTraces = false) {a1 : Int32} {a2 : Int32} {S : Sg} (h : w_X7_price a1 a2 S Qa) : CT X k0 l yX7_price cX7_price 4 (some .int) 7 104 [Value.ref (enc 0 0), Value.int a1, Value.int a2] rvI S Qa :=
  CT_ofV (own := RX7) (by decide +kernel) (le8 rfl) rfl hl fun p e R s m args below meth c ad0 C hr hnm htab => by
    refine V_aload_n (pc := 0) C dX7_price_0 rfl 0 rfl ?_
    refine V_iload_n (pc := 1) C dX7_price_1 rfl 1 rfl ?_
    refine V_callV (pc := 2) C (ct_X7_showAt hT hl h) g536 g538 g11 g539 g33 ⟨by decide, by decide, pl_X7_showAt⟩ (enc_ne63 (by decide)) (ct_obj hT rfl (by decide)) rfl ⟨by decide, by decide⟩ (rest := []) rfl (le8 rfl) dX7_price_2 (fun v2 S1 h => ?_) (fun k9 S9 hk h => VX_out C htab hk (h.2 (by omega)))
    replace h := h.1 rfl
    refine V_st (st' := [Value.ref (enc 6 (nt v2))]) rfl ?_
    refine V_astore_n (pc := 5) C dX7_price_5 rfl (by decide) rfl ?_
    refine V_iload_n (pc := 6) C dX7_price_6 rfl 3 rfl ?_
    refine V_iconst (pc := 7) C (v := 0) dX7_price_7 rfl ?_
    refine V_bipush (pc := 8) C (v := 120) dX7_price_8 rfl ?_
    refine V_callS (pc := 10) C (ct_X7_needWithin hT hl h) g129 g130 g131 g33 ⟨by decide, by decide, pl_X7_needWithin⟩ ⟨by decide, by decide⟩ (rest := []) rfl (le8 rfl) dX7_price_10 (fun v5 S4 h => ?_) (fun k9 S9 hk h => VX_out C htab hk (h.2 (by omega)))
    replace h := h.1 rfl
    refine V_st (st' := []) rfl ?_
    refine V_aload_n (pc := 13) C dX7_price_13 rfl 0 rfl ?_
    refine V_iload_n (pc := 14) C dX7_price_14 rfl 3 rfl ?_
    refine V_callV (pc := 15) C (ct_X5_priceFor hT hl h) g597 g598 g599 g600 g52 ⟨by decide, by decide, pl_X5_priceFor⟩ (enc_ne63 (by decide)) (ct_obj hT rfl (by decide)) rfl ⟨by decide, by decide⟩ (rest := []) rfl (le8 rfl) dX7_price_15 (fun v8 S7 h => ?_) (fun k9 S9 hk h => VX_out C htab hk (h.2 (by omega)))
    replace h := h.1 rfl
    refine V_st (st' := [Value.int v8]) rfl ?_
    exact V_iret (pc := 18) C hr rfl h dX7_price_18
theorem pl_X7_seat : (parseMethodDescriptor yX7_seat.desc).map (fun d => d.parameters.length) = some 3 := by decide +kernel
def w_X7_seat (a1 : Int32) (a2 : Int32) (a3 : Int32) (S : Sg) (Q : Nat → Int32 → Sg → Prop) : Prop := (w_X7_showAt a1 S (fun k3 v2 S1 => (k3 = 0 → (¬ S1.1 54 (nt v2) < 0 ∧ (w_X7_placeAt v2 a2 a3 S1 (fun k6 v5 S4 => (k6 = 0 → (vp_in v5 (nt (S4.1 58 (nt (S1.1 54 (nt v2))))) ∧ Q 0 (S4.1 (1000 + 2 * (nt (S1.1 54 (nt v2)))) (nt v5)) S4)) ∧ (¬ k6 = 0 → Q k6 0 S4))))) ∧ (¬ k3 = 0 → Q k3 0 S1)))
theorem ct_X7_seat (hT : xT X = tb1) (hl : l.stackTraces = false) {a1 : Int32} {a2 : Int32} {a3 : Int32} {S : Sg} (h : w_X7_seat a1 a2 a3 S Qa) : CT X k0 l yX7_seat cX7_seat 5 (some .int) 7 104 [Value.ref (enc 0 0), Value.int a1, Value.int a2, Value.int a3] rvI S Qa :=
  CT_ofV (own := RX7) (by decide +kernel) (le8 rfl) rfl hl fun p e R s m args below meth c ad0 C hr hnm htab => by
    refine V_aload_n (pc := 0) C dX7_seat_0 rfl 0 rfl ?_
    refine V_iload_n (pc := 1) C dX7_seat_1 rfl 1 rfl ?_
    refine V_callV (pc := 2) C (ct_X7_showAt hT hl h) g536 g538 g11 g539 g33 ⟨by decide, by decide, pl_X7_showAt⟩ (enc_ne63 (by decide)) (ct_obj hT rfl (by decide)) rfl ⟨by decide, by decide⟩ (rest := []) rfl (le8 rfl) dX7_seat_2 (fun v2 S1 h => ?_) (fun k9 S9 hk h => VX_out C htab hk (h.2 (by omega)))
    replace h := h.1 rfl
    refine V_st (st' := [Value.ref (enc 6 (nt v2))]) rfl ?_
    refine V_astore (pc := 5) C dX7_seat_5 (by decide) rfl ?_
    refine V_aload (pc := 7) C dX7_seat_7 0 rfl ?_
    refine V_getR (pc := 9) C hT f1_X5_4 (by decide) g507 dX7_seat_9 h (fun h => ?_)
    refine V_aload (pc := 12) C dX7_seat_12 0 rfl ?_
    refine V_iload_n (pc := 14) C dX7_seat_14 rfl 3 rfl ?_
    refine V_iload_n (pc := 15) C dX7_seat_15 rfl 4 rfl ?_
    refine V_callS (pc := 16) C (ct_X7_placeAt hT hl h) g639 g640 g641 g33 ⟨by decide, by decide, pl_X7_placeAt⟩ ⟨by decide, by decide⟩ (rest := [Value.ref (enc 10 (nt (S1.1 54 (nt v2))))]) rfl (le8 rfl) dX7_seat_16 (fun v5 S4 h => ?_) (fun k9 S9 hk h => VX_out C htab hk (h.2 (by omega)))
    replace h := h.1 rfl
    refine V_st (st' := [Value.int v5, Value.ref (enc 10 (nt (S1.1 54 (nt v2))))]) rfl ?_
    refine V_pld (pc := 19) C hT tb1_arr h dX7_seat_19 (fun h => ?_)
    exact V_iret (pc := 20) C hr rfl h dX7_seat_20
theorem pl_X7_ofShow : (parseMethodDescriptor yX7_ofShow.desc).map (fun d => d.parameters.length) = some 2 := by decide +kernel
def w_X7_ofShow (a1 : Int32) (a2 : Int32) (S : Sg) (Q : Nat → Int32 → Sg → Prop) : Prop := (w_X7_showAt a1 S (fun k3 v2 S1 => (k3 = 0 → ((a2 = 0 → (¬ S1.1 51 (nt v2) < 0 ∧ Q 0 (S1.1 30 (nt (S1.1 51 (nt v2)))) S1)) ∧ (¬ a2 = 0 → ((a2 = 1 → (¬ S1.1 52 (nt v2) < 0 ∧ Q 0 (S1.1 20 (nt (S1.1 52 (nt v2)))) S1)) ∧ (¬ a2 = 1 → ((a2 = 2 → Q 0 (S1.1 53 (nt v2)) S1) ∧ (¬ a2 = 2 → ((a2 = 3 → Q 0 (S1.1 56 (nt v2)) S1) ∧ (¬ a2 = 3 → ((a2 = 4 → (w_X5_countSold v2 S1 (fun k6 v5 S4 => (k6 = 0 → Q 0 v5 S4) ∧ (¬ k6 = 0 → Q k6 0 S4)))) ∧ (¬ a2 = 4 → ((a2 = 5 → (w_X5_countHeld v2 S1 (fun k9 v8 S7 => (k9 = 0 → Q 0 v8 S7) ∧ (¬ k9 = 0 → Q k9 0 S7)))) ∧ (¬ a2 = 5 → ((a2 = 6 → (¬ S1.1 55 (nt v2) < 0 ∧ Q 0 (S1.1 82 (nt (S1.1 55 (nt v2)))) S1)) ∧ (¬ a2 = 6 → ((a2 = 7 → Q 0 (S1.1 57 (nt v2)) S1) ∧ (¬ a2 = 7 → (S1.2.1 + 1 ≤ nB1 ∧ S1.2.2 + 6 ≤ nB2 ∧ Q 3 0 (tS S1))))))))))))))))))) ∧ (¬ k3 = 0 → Q k3 0 S1)))
theorem ct_X7_ofShow (hT : xT X = tb1) (hl : l.stackTraces = false) {a1 : Int32} {a2 : Int32} {S : Sg} (h : w_X7_ofShow a1 a2 S Qa) : CT X k0 l yX7_ofShow cX7_ofShow 4 (some .int) 7 103 [Value.ref (enc 0 0), Value.int a1, Value.int a2] rvI S Qa :=
  CT_ofV (own := RX7) (by decide +kernel) (le8 rfl) rfl hl fun p e R s m args below meth c ad0 C hr hnm htab => by
    refine V_aload_n (pc := 0) C dX7_ofShow_0 rfl 0 rfl ?_
    refine V_iload_n (pc := 1) C dX7_ofShow_1 rfl 1 rfl ?_
    refine V_callV (pc := 2) C (ct_X7_showAt hT hl h) g536 g538 g11 g539 g33 ⟨by decide, by decide, pl_X7_showAt⟩ (enc_ne63 (by decide)) (ct_obj hT rfl (by decide)) rfl ⟨by decide, by decide⟩ (rest := []) rfl (le8 rfl) dX7_ofShow_2 (fun v2 S1 h => ?_) (fun k9 S9 hk h => VX_out C htab hk (h.2 (by omega)))
    replace h := h.1 rfl
    refine V_st (st' := [Value.ref (enc 6 (nt v2))]) rfl ?_
    refine V_astore_n (pc := 5) C dX7_ofShow_5 rfl (by decide) rfl ?_
    refine V_iload_n (pc := 6) C dX7_ofShow_6 rfl 3 rfl ?_
    refine V_case h (fun e9 h2 => ?_) (fun e100 h2 => ?_)
    · clear h
      subst e9
      replace h := h2; clear h2
      refine V_tableIn (pc := 7) (tgt := 52) C dX7_ofShow_7 (by decide) (by decide) rfl (by decide) ?_
      refine V_aload_n (pc := 52) C dX7_ofShow_52 rfl 0 rfl ?_
      refine V_getR (pc := 53) C hT f1_X5_1 (by decide) g501 dX7_ofShow_53 h (fun h => ?_)
      refine V_getI (pc := 56) C hT f1_X0_0 g359 dX7_ofShow_56 ?_
      exact V_iret (pc := 59) C hr rfl h dX7_ofShow_59
    replace h := h2; clear h2
    refine V_case h (fun e9 h2 => ?_) (fun e101 h2 => ?_)
    · clear h
      subst e9
      replace h := h2; clear h2
      refine V_tableIn (pc := 7) (tgt := 60) C dX7_ofShow_7 (by decide) (by decide) rfl (by decide) ?_
      refine V_aload_n (pc := 60) C dX7_ofShow_60 rfl 0 rfl ?_
      refine V_getR (pc := 61) C hT f1_X5_2 (by decide) g503 dX7_ofShow_61 h (fun h => ?_)
      refine V_getI (pc := 64) C hT f1_X1_0 g227 dX7_ofShow_64 ?_
      exact V_iret (pc := 67) C hr rfl h dX7_ofShow_67
    replace h := h2; clear h2
    refine V_case h (fun e9 h2 => ?_) (fun e102 h2 => ?_)
    · clear h
      subst e9
      replace h := h2; clear h2
      refine V_tableIn (pc := 7) (tgt := 68) C dX7_ofShow_7 (by decide) (by decide) rfl (by decide) ?_
      refine V_aload_n (pc := 68) C dX7_ofShow_68 rfl 0 rfl ?_
      refine V_getI (pc := 69) C hT f1_X5_3 g505 dX7_ofShow_69 ?_
      exact V_iret (pc := 72) C hr rfl h dX7_ofShow_72
    replace h := h2; clear h2
    refine V_case h (fun e9 h2 => ?_) (fun e103 h2 => ?_)
    · clear h
      subst e9
      replace h := h2; clear h2
      refine V_tableIn (pc := 7) (tgt := 73) C dX7_ofShow_7 (by decide) (by decide) rfl (by decide) ?_
      refine V_aload_n (pc := 73) C dX7_ofShow_73 rfl 0 rfl ?_
      refine V_getI (pc := 74) C hT f1_X5_6 g511 dX7_ofShow_74 ?_
      exact V_iret (pc := 77) C hr rfl h dX7_ofShow_77
    replace h := h2; clear h2
    refine V_case h (fun e9 h2 => ?_) (fun e104 h2 => ?_)
    · clear h
      subst e9
      replace h := h2; clear h2
      refine V_tableIn (pc := 7) (tgt := 78) C dX7_ofShow_7 (by decide) (by decide) rfl (by decide) ?_
      refine V_aload_n (pc := 78) C dX7_ofShow_78 rfl 0 rfl ?_
      refine V_callV (pc := 79) C (ct_X5_countSold hT hl h) g815 g816 g817 g818 g52 ⟨by decide, by decide, pl_X5_countSold⟩ (enc_ne63 (by decide)) (ct_obj hT rfl (by decide)) rfl ⟨by decide, by decide⟩ (rest := []) rfl (le8 rfl) dX7_ofShow_79 (fun v5 S4 h => ?_) (fun k9 S9 hk h => VX_out C htab hk (h.2 (by omega)))
      replace h := h.1 rfl
      refine V_st (st' := [Value.int v5]) rfl ?_
      exact V_iret (pc := 82) C hr rfl h dX7_ofShow_82
    replace h := h2; clear h2
    refine V_case h (fun e9 h2 => ?_) (fun e105 h2 => ?_)
    · clear h
      subst e9
      replace h := h2; clear h2
      refine V_tableIn (pc := 7) (tgt := 83) C dX7_ofShow_7 (by decide) (by decide) rfl (by decide) ?_
      refine V_aload_n (pc := 83) C dX7_ofShow_83 rfl 0 rfl ?_
      refine V_callV (pc := 84) C (ct_X5_countHeld hT hl h) g824 g821 g822 g823 g52 ⟨by decide, by decide, pl_X5_countHeld⟩ (enc_ne63 (by decide)) (ct_obj hT rfl (by decide)) rfl ⟨by decide, by decide⟩ (rest := []) rfl (le8 rfl) dX7_ofShow_84 (fun v8 S7 h => ?_) (fun k9 S9 hk h => VX_out C htab hk (h.2 (by omega)))
      replace h := h.1 rfl
      refine V_st (st' := [Value.int v8]) rfl ?_
      exact V_iret (pc := 87) C hr rfl h dX7_ofShow_87
    replace h := h2; clear h2
    refine V_case h (fun e9 h2 => ?_) (fun e106 h2 => ?_)
    · clear h
      subst e9
      replace h := h2; clear h2
      refine V_tableIn (pc := 7) (tgt := 88) C dX7_ofShow_7 (by decide) (by decide) rfl (by decide) ?_
      refine V_aload_n (pc := 88) C dX7_ofShow_88 rfl 0 rfl ?_
      refine V_getR (pc := 89) C hT f1_X5_5 (by decide) g509 dX7_ofShow_89 h (fun h => ?_)
      refine V_getI (pc := 92) C hT f1_X4_2 g486 dX7_ofShow_92 ?_
      exact V_iret (pc := 95) C hr rfl h dX7_ofShow_95
    replace h := h2; clear h2
    refine V_case h (fun e9 h2 => ?_) (fun e107 h2 => ?_)
    · clear h
      subst e9
      replace h := h2; clear h2
      refine V_tableIn (pc := 7) (tgt := 96) C dX7_ofShow_7 (by decide) (by decide) rfl (by decide) ?_
      refine V_aload_n (pc := 96) C dX7_ofShow_96 rfl 0 rfl ?_
      refine V_getI (pc := 97) C hT f1_X5_7 g514 dX7_ofShow_97 ?_
      exact V_iret (pc := 100) C hr rfl h dX7_ofShow_100
    replace h := h2; clear h2
    refine V_tableOut (pc := 7) (tgt := 101) C dX7_ofShow_7 (tbl_out (n := 7) (by decide) (fun k hk => ?_)) (by decide) ?_
    · have hk2 : k = 0 ∨ k = 1 ∨ k = 2 ∨ k = 3 ∨ k = 4 ∨ k = 5 ∨ k = 6 ∨ k = 7 := by omega
      rcases hk2 with rfl | rfl | rfl | rfl | rfl | rfl | rfl | rfl <;> assumption
    exact V_throwW (pc := 101) C htab (k9 := 3) (by decide) at_RX7_3 str_RX7_293 ⟨by decide, le8 rfl⟩ dX7_ofShow_101 dX7_ofShow_104 dX7_ofShow_105 dX7_ofShow_108 dX7_ofShow_111 h
theorem pl_X7_ofTicket : (parseMethodDescriptor yX7_ofTicket.desc).map (fun d => d.parameters.length) = some 2 := by decide +kernel
def w_X7_ofTicket (a1 : Int32) (a2 : Int32) (S : Sg) (Q : Nat → Int32 → Sg → Prop) : Prop := (w_X7_ticketAt a1 S (fun k3 v2 S1 => (k3 = 0 → ((a2 = 0 → (¬ S1.1 70 (nt v2) < 0 ∧ Q 0 (S1.1 50 (nt (S1.1 70 (nt v2)))) S1)) ∧ (¬ a2 = 0 → ((a2 = 1 → (¬ S1.1 70 (nt v2) < 0 ∧ (w_X5_rowOf (S1.1 70 (nt v2)) (S1.1 71 (nt v2)) S1 (fun k6 v5 S4 => (k6 = 0 → Q 0 v5 S4) ∧ (¬ k6 = 0 → Q k6 0 S4))))) ∧ (¬ a2 = 1 → ((a2 = 2 → (¬ S1.1 70 (nt v2) < 0 ∧ (w_X5_seatOf (S1.1 70 (nt v2)) (S1.1 71 (nt v2)) S1 (fun k9 v8 S7 => (k9 = 0 → Q 0 v8 S7) ∧ (¬ k9 = 0 → Q k9 0 S7))))) ∧ (¬ a2 = 2 → ((a2 = 3 → Q 0 (S1.1 72 (nt v2)) S1) ∧ (¬ a2 = 3 → ((a2 = 4 → Q 0 (S1.1 73 (nt v2)) S1) ∧ (¬ a2 = 4 → ((a2 = 5 → (((S1.1 74 (nt v2)) = 0 → Q 0 0 S1) ∧ (¬ (S1.1 74 (nt v2)) = 0 → Q 0 1 S1))) ∧ (¬ a2 = 5 → (S1.2.1 + 1 ≤ nB1 ∧ S1.2.2 + 6 ≤ nB2 ∧ Q 3 0 (tS S1))))))))))))))) ∧ (¬ k3 = 0 → Q k3 0 S1)))
theorem ct_X7_ofTicket (hT : xT X = tb1) (hl : l.stackTraces = false) {a1 : Int32} {a2 : Int32} {S : Sg} (h : w_X7_ofTicket a1 a2 S Qa) : CT X k0 l yX7_ofTicket cX7_ofTicket 4 (some .int) 8 124 [Value.ref (enc 0 0), Value.int a1, Value.int a2] rvI S Qa :=
  CT_ofV (own := RX7) (by decide +kernel) (le8 rfl) rfl hl fun p e R s m args below meth c ad0 C hr hnm htab => by
    refine V_aload_n (pc := 0) C dX7_ofTicket_0 rfl 0 rfl ?_
    refine V_iload_n (pc := 1) C dX7_ofTicket_1 rfl 1 rfl ?_
    refine V_callV (pc := 2) C (ct_X7_ticketAt hT hl h) g724 g726 g24 g727 g33 ⟨by decide, by decide, pl_X7_ticketAt⟩ (enc_ne63 (by decide)) (ct_obj hT rfl (by decide)) rfl ⟨by decide, by decide⟩ (rest := []) rfl (le8 rfl) dX7_ofTicket_2 (fun v2 S1 h => ?_) (fun k9 S9 hk h => VX_out C htab hk (h.2 (by omega)))
    replace h := h.1 rfl
    refine V_st (st' := [Value.ref (enc 8 (nt v2))]) rfl ?_
    refine V_astore_n (pc := 5) C dX7_ofTicket_5 rfl (by decide) rfl ?_
    refine V_iload_n (pc := 6) C dX7_ofTicket_6 rfl 3 rfl ?_
    refine V_case h (fun e9 h2 => ?_) (fun e100 h2 => ?_)
    · clear h
      subst e9
      replace h := h2; clear h2
      refine V_tableIn (pc := 7) (tgt := 44) C dX7_ofTicket_7 (by decide) (by decide) rfl (by decide) ?_
      refine V_aload_n (pc := 44) C dX7_ofTicket_44 rfl 0 rfl ?_
      refine V_getR (pc := 45) C hT f1_X6_0 (by decide) g607 dX7_ofTicket_45 h (fun h => ?_)
      refine V_getI (pc := 48) C hT f1_X5_0 g499 dX7_ofTicket_48 ?_
      exact V_iret (pc := 51) C hr rfl h dX7_ofTicket_51
    replace h := h2; clear h2
    refine V_case h (fun e9 h2 => ?_) (fun e101 h2 => ?_)
    · clear h
      subst e9
      replace h := h2; clear h2
      refine V_tableIn (pc := 7) (tgt := 52) C dX7_ofTicket_7 (by decide) (by decide) rfl (by decide) ?_
      refine V_aload_n (pc := 52) C dX7_ofTicket_52 rfl 0 rfl ?_
      refine V_getR (pc := 53) C hT f1_X6_0 (by decide) g607 dX7_ofTicket_53 h (fun h => ?_)
      refine V_aload_n (pc := 56) C dX7_ofTicket_56 rfl 0 rfl ?_
      refine V_getI (pc := 57) C hT f1_X6_1 g609 dX7_ofTicket_57 ?_
      refine V_callV (pc := 60) C (ct_X5_rowOf hT hl h) g871 g872 g873 g874 g52 ⟨by decide, by decide, pl_X5_rowOf⟩ (enc_ne63 (by decide)) (ct_obj hT rfl (by decide)) rfl ⟨by decide, by decide⟩ (rest := []) rfl (le8 rfl) dX7_ofTicket_60 (fun v5 S4 h => ?_) (fun k9 S9 hk h => VX_out C htab hk (h.2 (by omega)))
      replace h := h.1 rfl
      refine V_st (st' := [Value.int v5]) rfl ?_
      exact V_iret (pc := 63) C hr rfl h dX7_ofTicket_63
    replace h := h2; clear h2
    refine V_case h (fun e9 h2 => ?_) (fun e102 h2 => ?_)
    · clear h
      subst e9
      replace h := h2; clear h2
      refine V_tableIn (pc := 7) (tgt := 64) C dX7_ofTicket_7 (by decide) (by decide) rfl (by decide) ?_
      refine V_aload_n (pc := 64) C dX7_ofTicket_64 rfl 0 rfl ?_
      refine V_getR (pc := 65) C hT f1_X6_0 (by decide) g607 dX7_ofTicket_65 h (fun h => ?_)
      refine V_aload_n (pc := 68) C dX7_ofTicket_68 rfl 0 rfl ?_
      refine V_getI (pc := 69) C hT f1_X6_1 g609 dX7_ofTicket_69 ?_
      refine V_callV (pc := 72) C (ct_X5_seatOf hT hl h) g876 g877 g878 g879 g52 ⟨by decide, by decide, pl_X5_seatOf⟩ (enc_ne63 (by decide)) (ct_obj hT rfl (by decide)) rfl ⟨by decide, by decide⟩ (rest := []) rfl (le8 rfl) dX7_ofTicket_72 (fun v8 S7 h => ?_) (fun k9 S9 hk h => VX_out C htab hk (h.2 (by omega)))
      replace h := h.1 rfl
      refine V_st (st' := [Value.int v8]) rfl ?_
      exact V_iret (pc := 75) C hr rfl h dX7_ofTicket_75
    replace h := h2; clear h2
    refine V_case h (fun e9 h2 => ?_) (fun e103 h2 => ?_)
    · clear h
      subst e9
      replace h := h2; clear h2
      refine V_tableIn (pc := 7) (tgt := 76) C dX7_ofTicket_7 (by decide) (by decide) rfl (by decide) ?_
      refine V_aload_n (pc := 76) C dX7_ofTicket_76 rfl 0 rfl ?_
      refine V_getI (pc := 77) C hT f1_X6_2 g611 dX7_ofTicket_77 ?_
      exact V_iret (pc := 80) C hr rfl h dX7_ofTicket_80
    replace h := h2; clear h2
    refine V_case h (fun e9 h2 => ?_) (fun e104 h2 => ?_)
    · clear h
      subst e9
      replace h := h2; clear h2
      refine V_tableIn (pc := 7) (tgt := 81) C dX7_ofTicket_7 (by decide) (by decide) rfl (by decide) ?_
      refine V_aload_n (pc := 81) C dX7_ofTicket_81 rfl 0 rfl ?_
      refine V_getI (pc := 82) C hT f1_X6_3 g613 dX7_ofTicket_82 ?_
      exact V_iret (pc := 85) C hr rfl h dX7_ofTicket_85
    replace h := h2; clear h2
    refine V_case h (fun e9 h2 => ?_) (fun e105 h2 => ?_)
    · clear h
      subst e9
      replace h := h2; clear h2
      refine V_tableIn (pc := 7) (tgt := 86) C dX7_ofTicket_7 (by decide) (by decide) rfl (by decide) ?_
      refine V_aload_n (pc := 86) C dX7_ofTicket_86 rfl 0 rfl ?_
      refine V_getI (pc := 87) C hT f1_X6_4 g615 dX7_ofTicket_87 ?_
      refine V_if_eq (pc := 90) (tgt := 97) C dX7_ofTicket_90 (by decide) h (fun h => ?_) (fun h => ?_)
      · refine V_iconst (pc := 97) C (v := 0) dX7_ofTicket_97 rfl ?_
        exact V_iret (pc := 98) C hr rfl h dX7_ofTicket_98
      · refine V_iconst (pc := 93) C (v := 1) dX7_ofTicket_93 rfl ?_
        refine V_goto (pc := 94) (tgt := 98) C dX7_ofTicket_94 (by decide) ?_
        exact V_iret (pc := 98) C hr rfl h dX7_ofTicket_98
    replace h := h2; clear h2
    refine V_tableOut (pc := 7) (tgt := 99) C dX7_ofTicket_7 (tbl_out (n := 5) (by decide) (fun k hk => ?_)) (by decide) ?_
    · have hk2 : k = 0 ∨ k = 1 ∨ k = 2 ∨ k = 3 ∨ k = 4 ∨ k = 5 := by omega
      rcases hk2 with rfl | rfl | rfl | rfl | rfl | rfl <;> assumption
    exact V_throwW (pc := 99) C htab (k9 := 3) (by decide) at_RX7_3 str_RX7_293 ⟨by decide, le8 rfl⟩ dX7_ofTicket_99 dX7_ofTicket_102 dX7_ofTicket_103 dX7_ofTicket_106 dX7_ofTicket_109 h
theorem pl_X7_runningIn : (parseMethodDescriptor yX7_runningIn.desc).map (fun d => d.parameters.length) = some 1 := by decide +kernel
def w_X7_runningIn_49 (k2 : Int32 → Int32 → Sg → Prop) (Q : Nat → Int32 → Sg → Prop) (x1 : Int32) (x2 : Int32) (S : Sg) : Prop := k2 x1 (x2 + 1) S
theorem k_X7_runningIn_49 (hT : xT X = tb1) (hl : l.stackTraces = false) (C : Cn X k0 p l R s m meth c cX7_runningIn RX7 4 4 81) (hr : meth.sig.returnType = (some .int)) (hnm : meth.name = yX7_runningIn.name) (htab : ∀ x ∈ c.exceptionTable.toList, False) {k2 : Int32 → Int32 → Sg → Prop} (hk2 : ∀ {x1 : Int32} {x2 : Int32} {S : Sg}, k2 x1 x2 S → V X p l e R s m args below meth c 4 (QM X below args s S0 ad0 rvI Qa) S0 ad0 S 2 [(0, Value.ref (enc 0 0)), (1, Value.ref (enc 3 (nt x1))), (2, Value.int x2)] []) {x1 : Int32} {x2 : Int32} {S : Sg} (h : w_X7_runningIn_49 k2 Qa x1 x2 S) : V X p l e R s m args below meth c 4 (QM X below args s S0 ad0 rvI Qa) S0 ad0 S 49 [(0, Value.ref (enc 0 0)), (1, Value.ref (enc 3 (nt x1))), (2, Value.int x2)] [] := by
  refine V_iinc (pc := 49) C (a := 2) (v := x2 + 1) dX7_runningIn_49 rfl rfl (by decide) rfl ?_
  refine V_goto (pc := 52) (tgt := 2) C dX7_runningIn_52 (by decide) ?_
  refine V_sub [1, 2, 0] rfl ?_
  exact hk2 h
def w_X7_runningIn_2  (Q : Nat → Int32 → Sg → Prop) : Nat → Int32 → Int32 → Sg → Prop
  | 0, _, _, _ => False
  | n + 1, x1, x2, S => (w_size 3 S (fun k3 v2 S1 => (k3 = 0 → ((v2 ≤ x2 → Q 0 (-1) S1) ∧ (¬ v2 ≤ x2 → (w_get 3 x2 S1 (fun k6 v5 S4 => (k6 = 0 → (¬ S4.1 52 (nt v5) < 0 ∧ (((S4.1 20 (nt (S4.1 52 (nt v5)))) = (S4.1 20 (nt x1)) → (((S4.1 56 (nt v5)) = 1 → Q 0 x2 S4) ∧ (¬ (S4.1 56 (nt v5)) = 1 → w_X7_runningIn_49 (fun x1 x2 S => w_X7_runningIn_2  Q n x1 x2 S) Q x1 x2 S4))) ∧ (¬ (S4.1 20 (nt (S4.1 52 (nt v5)))) = (S4.1 20 (nt x1)) → w_X7_runningIn_49 (fun x1 x2 S => w_X7_runningIn_2  Q n x1 x2 S) Q x1 x2 S4)))) ∧ (¬ k6 = 0 → Q k6 0 S4)))))) ∧ (¬ k3 = 0 → Q k3 0 S1)))
theorem k_X7_runningIn_2 (hT : xT X = tb1) (hl : l.stackTraces = false) (C : Cn X k0 p l R s m meth c cX7_runningIn RX7 4 4 81) (hr : meth.sig.returnType = (some .int)) (hnm : meth.name = yX7_runningIn.name) (htab : ∀ x ∈ c.exceptionTable.toList, False)  : ∀ n {x1 : Int32} {x2 : Int32} {S : Sg}, w_X7_runningIn_2  Qa n x1 x2 S → V X p l e R s m args below meth c 4 (QM X below args s S0 ad0 rvI Qa) S0 ad0 S 2 [(0, Value.ref (enc 0 0)), (1, Value.ref (enc 3 (nt x1))), (2, Value.int x2)] [] := by
  intro n
  induction n with
  | zero => intro x1 x2 S h; exact h.elim
  | succ n ih =>
    intro x1 x2 S h
    refine V_iload_n (pc := 2) C dX7_runningIn_2 rfl 2 rfl ?_
    refine V_aload_n (pc := 3) C dX7_runningIn_3 rfl 0 rfl ?_
    refine V_getF (pc := 4) C hT f1_X7_3 g93 dX7_runningIn_4 ?_
    refine V_callV (pc := 7) C (ct_size hT hl h) g200 g201 g202 g203 g36 ⟨by decide, by decide, pl_Jx4a65c_size_8abf5⟩ (enc_ne63 (by decide)) (ct_obj hT rfl (by decide)) rfl ⟨by decide, by decide⟩ (rest := [Value.int x2]) rfl (le8 rfl) dX7_runningIn_7 (fun v2 S1 h => ?_) (fun k9 S9 hk h => VX_out C htab hk (h.2 (by omega)))
    replace h := h.1 rfl
    refine V_st (st' := [Value.int v2, Value.int x2]) rfl ?_
    refine V_icmp_ge (pc := 10) (tgt := 55) C dX7_runningIn_10 (by decide) h (fun h => ?_) (fun h => ?_)
    · refine V_iconst (pc := 55) C (v := (-1)) dX7_runningIn_55 rfl ?_
      exact V_iret (pc := 56) C hr rfl h dX7_runningIn_56
    · refine V_aload_n (pc := 13) C dX7_runningIn_13 rfl 0 rfl ?_
      refine V_getF (pc := 14) C hT f1_X7_3 g93 dX7_runningIn_14 ?_
      refine V_iload_n (pc := 17) C dX7_runningIn_17 rfl 2 rfl ?_
      refine V_callV (pc := 18) C (ct_get hT hl (by decide) h) g332 g333 g334 g335 g36 ⟨by decide, by decide, pl_Jx4a65c_get_915e3⟩ (enc_ne63 (by decide)) (ct_obj hT rfl (by decide)) rfl ⟨by decide, by decide⟩ (rest := []) rfl (le8 rfl) dX7_runningIn_18 (fun v5 S4 h => ?_) (fun k9 S9 hk h => VX_out C htab hk (h.2 (by omega)))
      replace h := h.1 rfl
      refine V_st (st' := [Value.ref (enc 6 (nt v5))]) rfl ?_
      refine V_cast (pc := 21) C hT (by decide) rfl rfl g451 dX7_runningIn_21 ?_
      refine V_astore_n (pc := 24) C dX7_runningIn_24 rfl (by decide) rfl ?_
      refine V_aload_n (pc := 25) C dX7_runningIn_25 rfl 0 rfl ?_
      refine V_getR (pc := 26) C hT f1_X5_2 (by decide) g503 dX7_runningIn_26 h (fun h => ?_)
      refine V_getI (pc := 29) C hT f1_X1_0 g227 dX7_runningIn_29 ?_
      refine V_aload_n (pc := 32) C dX7_runningIn_32 rfl 2 rfl ?_
      refine V_getI (pc := 33) C hT f1_X1_0 g227 dX7_runningIn_33 ?_
      refine V_icmp_ne (pc := 36) (tgt := 49) C dX7_runningIn_36 (by decide) h (fun h => ?_) (fun h => ?_)
      · refine V_sub [1, 2, 3] rfl ?_
        exact k_X7_runningIn_49 hT hl C hr hnm htab (fun h => ih h) h
      · refine V_aload_n (pc := 39) C dX7_runningIn_39 rfl 0 rfl ?_
        refine V_getI (pc := 40) C hT f1_X5_6 g511 dX7_runningIn_40 ?_
        refine V_iconst (pc := 43) C (v := 1) dX7_runningIn_43 rfl ?_
        refine V_icmp_ne (pc := 44) (tgt := 49) C dX7_runningIn_44 (by decide) h (fun h => ?_) (fun h => ?_)
        · refine V_sub [1, 2, 3] rfl ?_
          exact k_X7_runningIn_49 hT hl C hr hnm htab (fun h => ih h) h
        · refine V_iload_n (pc := 47) C dX7_runningIn_47 rfl 3 rfl ?_
          exact V_iret (pc := 48) C hr rfl h dX7_runningIn_48
def w_X7_runningIn (a1 : Int32) (S : Sg) (Q : Nat → Int32 → Sg → Prop) : Prop := ∃ n9, w_X7_runningIn_2  Q n9 a1 0 S
theorem ct_X7_runningIn (hT : xT X = tb1) (hl : l.stackTraces = false) {a1 : Int32} {S : Sg} (h : w_X7_runningIn a1 S Qa) : CT X k0 l yX7_runningIn cX7_runningIn 4 (some .int) 4 81 [Value.ref (enc 0 0), Value.ref (enc 3 (nt a1))] rvI S Qa :=
  CT_ofV (own := RX7) (by decide +kernel) (le8 rfl) rfl hl fun p e R s m args below meth c ad0 C hr hnm htab => by
    refine V_iconst (pc := 0) C (v := 0) dX7_runningIn_0 rfl ?_
    refine V_istore_n (pc := 1) C dX7_runningIn_1 rfl (by decide) rfl ?_
    refine V_sub [1, 2, 0] rfl ?_
    obtain ⟨n9, h⟩ := h
    exact k_X7_runningIn_2 hT hl C hr hnm htab  n9 h
theorem pl_X7_ofHall : (parseMethodDescriptor yX7_ofHall.desc).map (fun d => d.parameters.length) = some 2 := by decide +kernel
def w_X7_ofHall (a1 : Int32) (a2 : Int32) (S : Sg) (Q : Nat → Int32 → Sg → Prop) : Prop := (w_X7_hallAt a1 S (fun k3 v2 S1 => (k3 = 0 → ((a2 = 0 → Q 0 ((S1.1 21 (nt v2)) * (S1.1 22 (nt v2))) S1) ∧ (¬ a2 = 0 → ((a2 = 1 → Q 0 (S1.1 23 (nt v2)) S1) ∧ (¬ a2 = 1 → ((a2 = 2 → Q 0 (S1.1 24 (nt v2)) S1) ∧ (¬ a2 = 2 → ((a2 = 3 → (w_X7_runningIn v2 S1 (fun k6 v5 S4 => (k6 = 0 → Q 0 v5 S4) ∧ (¬ k6 = 0 → Q k6 0 S4)))) ∧ (¬ a2 = 3 → (S1.2.1 + 1 ≤ nB1 ∧ S1.2.2 + 6 ≤ nB2 ∧ Q 3 0 (tS S1))))))))))) ∧ (¬ k3 = 0 → Q k3 0 S1)))
theorem ct_X7_ofHall (hT : xT X = tb1) (hl : l.stackTraces = false) {a1 : Int32} {a2 : Int32} {S : Sg} (h : w_X7_ofHall a1 a2 S Qa) : CT X k0 l yX7_ofHall cX7_ofHall 4 (some .int) 7 104 [Value.ref (enc 0 0), Value.int a1, Value.int a2] rvI S Qa :=
  CT_ofV (own := RX7) (by decide +kernel) (le8 rfl) rfl hl fun p e R s m args below meth c ad0 C hr hnm htab => by
    refine V_aload_n (pc := 0) C dX7_ofHall_0 rfl 0 rfl ?_
    refine V_iload_n (pc := 1) C dX7_ofHall_1 rfl 1 rfl ?_
    refine V_callV (pc := 2) C (ct_X7_hallAt hT hl h) g312 g314 g4 g315 g33 ⟨by decide, by decide, pl_X7_hallAt⟩ (enc_ne63 (by decide)) (ct_obj hT rfl (by decide)) rfl ⟨by decide, by decide⟩ (rest := []) rfl (le8 rfl) dX7_ofHall_2 (fun v2 S1 h => ?_) (fun k9 S9 hk h => VX_out C htab hk (h.2 (by omega)))
    replace h := h.1 rfl
    refine V_st (st' := [Value.ref (enc 3 (nt v2))]) rfl ?_
    refine V_astore_n (pc := 5) C dX7_ofHall_5 rfl (by decide) rfl ?_
    refine V_iload_n (pc := 6) C dX7_ofHall_6 rfl 3 rfl ?_
    refine V_case h (fun e9 h2 => ?_) (fun e100 h2 => ?_)
    · clear h
      subst e9
      replace h := h2; clear h2
      refine V_tableIn (pc := 7) (tgt := 36) C dX7_ofHall_7 (by decide) (by decide) rfl (by decide) ?_
      refine V_aload_n (pc := 36) C dX7_ofHall_36 rfl 0 rfl ?_
      refine V_getI (pc := 37) C hT f1_X1_1 g230 dX7_ofHall_37 ?_
      refine V_aload_n (pc := 40) C dX7_ofHall_40 rfl 0 rfl ?_
      refine V_getI (pc := 41) C hT f1_X1_2 g233 dX7_ofHall_41 ?_
      refine V_imul (pc := 44) C dX7_ofHall_44 ?_
      exact V_iret (pc := 45) C hr rfl h dX7_ofHall_45
    replace h := h2; clear h2
    refine V_case h (fun e9 h2 => ?_) (fun e101 h2 => ?_)
    · clear h
      subst e9
      replace h := h2; clear h2
      refine V_tableIn (pc := 7) (tgt := 46) C dX7_ofHall_7 (by decide) (by decide) rfl (by decide) ?_
      refine V_aload_n (pc := 46) C dX7_ofHall_46 rfl 0 rfl ?_
      refine V_getI (pc := 47) C hT f1_X1_3 g235 dX7_ofHall_47 ?_
      exact V_iret (pc := 50) C hr rfl h dX7_ofHall_50
    replace h := h2; clear h2
    refine V_case h (fun e9 h2 => ?_) (fun e102 h2 => ?_)
    · clear h
      subst e9
      replace h := h2; clear h2
      refine V_tableIn (pc := 7) (tgt := 51) C dX7_ofHall_7 (by decide) (by decide) rfl (by decide) ?_
      refine V_aload_n (pc := 51) C dX7_ofHall_51 rfl 0 rfl ?_
      refine V_getI (pc := 52) C hT f1_X1_4 g237 dX7_ofHall_52 ?_
      exact V_iret (pc := 55) C hr rfl h dX7_ofHall_55
    replace h := h2; clear h2
    refine V_case h (fun e9 h2 => ?_) (fun e103 h2 => ?_)
    · clear h
      subst e9
      replace h := h2; clear h2
      refine V_tableIn (pc := 7) (tgt := 56) C dX7_ofHall_7 (by decide) (by decide) rfl (by decide) ?_
      refine V_aload_n (pc := 56) C dX7_ofHall_56 rfl 1 rfl ?_
      refine V_aload_n (pc := 57) C dX7_ofHall_57 rfl 0 rfl ?_
      refine V_callV (pc := 58) C (ct_X7_runningIn hT hl h) g801 g803 g29 g804 g33 ⟨by decide, by decide, pl_X7_runningIn⟩ (enc_ne63 (by decide)) (ct_obj hT rfl (by decide)) rfl ⟨by decide, by decide⟩ (rest := []) rfl (le8 rfl) dX7_ofHall_58 (fun v5 S4 h => ?_) (fun k9 S9 hk h => VX_out C htab hk (h.2 (by omega)))
      replace h := h.1 rfl
      refine V_st (st' := [Value.int v5]) rfl ?_
      exact V_iret (pc := 61) C hr rfl h dX7_ofHall_61
    replace h := h2; clear h2
    refine V_tableOut (pc := 7) (tgt := 62) C dX7_ofHall_7 (tbl_out (n := 3) (by decide) (fun k hk => ?_)) (by decide) ?_
    · have hk2 : k = 0 ∨ k = 1 ∨ k = 2 ∨ k = 3 := by omega
      rcases hk2 with rfl | rfl | rfl | rfl <;> assumption
    exact V_throwW (pc := 62) C htab (k9 := 3) (by decide) at_RX7_3 str_RX7_293 ⟨by decide, le8 rfl⟩ dX7_ofHall_62 dX7_ofHall_65 dX7_ofHall_66 dX7_ofHall_69 dX7_ofHall_72 h
theorem pl_X7_openingOf : (parseMethodDescriptor yX7_openingOf.desc).map (fun d => d.parameters.length) = some 1 := by decide +kernel
def w_X7_openingOf_72 (k4 : Int32 → Int32 → Int32 → Sg → Prop) (Q : Nat → Int32 → Sg → Prop) (x1 : Int32) (x2 : Int32) (x3 : Int32) (S : Sg) : Prop := k4 x1 x2 (x3 + 1) S
theorem k_X7_openingOf_72 (hT : xT X = tb1) (hl : l.stackTraces = false) (C : Cn X k0 p l R s m meth c cX7_openingOf RX7 5 4 81) (hr : meth.sig.returnType = (some .int)) (hnm : meth.name = yX7_openingOf.name) (htab : ∀ x ∈ c.exceptionTable.toList, False) {k4 : Int32 → Int32 → Int32 → Sg → Prop} (hk4 : ∀ {x1 : Int32} {x2 : Int32} {x3 : Int32} {S : Sg}, k4 x1 x2 x3 S → V X p l e R s m args below meth c 5 (QM X below args s S0 ad0 rvI Qa) S0 ad0 S 4 [(0, Value.ref (enc 0 0)), (1, Value.ref (enc 4 (nt x1))), (2, Value.int x2), (3, Value.int x3)] []) {x1 : Int32} {x2 : Int32} {x3 : Int32} {S : Sg} (h : w_X7_openingOf_72 k4 Qa x1 x2 x3 S) : V X p l e R s m args below meth c 5 (QM X below args s S0 ad0 rvI Qa) S0 ad0 S 72 [(0, Value.ref (enc 0 0)), (1, Value.ref (enc 4 (nt x1))), (2, Value.int x2), (3, Value.int x3)] [] := by
  refine V_iinc (pc := 72) C (a := 3) (v := x3 + 1) dX7_openingOf_72 rfl rfl (by decide) rfl ?_
  refine V_goto (pc := 75) (tgt := 4) C dX7_openingOf_75 (by decide) ?_
  refine V_sub [1, 2, 3, 0] rfl ?_
  exact hk4 h
def w_X7_openingOf_66 (k4 : Int32 → Int32 → Int32 → Sg → Prop) (Q : Nat → Int32 → Sg → Prop) (x1 : Int32) (x3 : Int32) (x4 : Int32) (S : Sg) : Prop := (w_X5_week x4 S (fun k3 v2 S1 => (k3 = 0 → w_X7_openingOf_72 k4 Q x1 v2 x3 S1) ∧ (¬ k3 = 0 → Q k3 0 S1)))
theorem k_X7_openingOf_66 (hT : xT X = tb1) (hl : l.stackTraces = false) (C : Cn X k0 p l R s m meth c cX7_openingOf RX7 5 4 81) (hr : meth.sig.returnType = (some .int)) (hnm : meth.name = yX7_openingOf.name) (htab : ∀ x ∈ c.exceptionTable.toList, False) {k4 : Int32 → Int32 → Int32 → Sg → Prop} (hk4 : ∀ {x1 : Int32} {x2 : Int32} {x3 : Int32} {S : Sg}, k4 x1 x2 x3 S → V X p l e R s m args below meth c 5 (QM X below args s S0 ad0 rvI Qa) S0 ad0 S 4 [(0, Value.ref (enc 0 0)), (1, Value.ref (enc 4 (nt x1))), (2, Value.int x2), (3, Value.int x3)] []) {x1 : Int32} {x3 : Int32} {x4 : Int32} {S : Sg} (h : w_X7_openingOf_66 k4 Qa x1 x3 x4 S) : V X p l e R s m args below meth c 5 (QM X below args s S0 ad0 rvI Qa) S0 ad0 S 66 [(0, Value.ref (enc 0 0)), (1, Value.ref (enc 4 (nt x1))), (3, Value.int x3), (4, Value.ref (enc 6 (nt x4)))] [] := by
  refine V_aload (pc := 66) C dX7_openingOf_66 3 rfl ?_
  refine V_callV (pc := 68) C (ct_X5_week hT hl h) g846 g847 g848 g849 g52 ⟨by decide, by decide, pl_X5_week⟩ (enc_ne63 (by decide)) (ct_obj hT rfl (by decide)) rfl ⟨by decide, by decide⟩ (rest := []) rfl (le8 rfl) dX7_openingOf_68 (fun v2 S1 h => ?_) (fun k9 S9 hk h => VX_out C htab hk (h.2 (by omega)))
  replace h := h.1 rfl
  refine V_st (st' := [Value.int v2]) rfl ?_
  refine V_istore_n (pc := 71) C dX7_openingOf_71 rfl (by decide) rfl ?_
  refine V_sub [1, 2, 0, 3] rfl ?_
  exact k_X7_openingOf_72 hT hl C hr hnm htab (fun h => hk4 h) h
def w_X7_openingOf_4  (Q : Nat → Int32 → Sg → Prop) : Nat → Int32 → Int32 → Int32 → Sg → Prop
  | 0, _, _, _, _ => False
  | n + 1, x1, x2, x3, S => (w_size 3 S (fun k6 v5 S4 => (k6 = 0 → ((v5 ≤ x3 → Q 0 x2 S4) ∧ (¬ v5 ≤ x3 → (w_get 3 x3 S4 (fun k9 v8 S7 => (k9 = 0 → (¬ S7.1 51 (nt v8) < 0 ∧ (((S7.1 30 (nt (S7.1 51 (nt v8)))) = (S7.1 30 (nt x1)) → (((S7.1 56 (nt v8)) = 4 → w_X7_openingOf_72 (fun x1 x2 x3 S => w_X7_openingOf_4  Q n x1 x2 x3 S) Q x1 x2 x3 S7) ∧ (¬ (S7.1 56 (nt v8)) = 4 → ((x2 = (-1) → w_X7_openingOf_66 (fun x1 x2 x3 S => w_X7_openingOf_4  Q n x1 x2 x3 S) Q x1 x3 v8 S7) ∧ (¬ x2 = (-1) → (w_X5_week v8 S7 (fun k12 v11 S10 => (k12 = 0 → ((x2 ≤ v11 → w_X7_openingOf_72 (fun x1 x2 x3 S => w_X7_openingOf_4  Q n x1 x2 x3 S) Q x1 x2 x3 S10) ∧ (¬ x2 ≤ v11 → w_X7_openingOf_66 (fun x1 x2 x3 S => w_X7_openingOf_4  Q n x1 x2 x3 S) Q x1 x3 v8 S10))) ∧ (¬ k12 = 0 → Q k12 0 S10)))))))) ∧ (¬ (S7.1 30 (nt (S7.1 51 (nt v8)))) = (S7.1 30 (nt x1)) → w_X7_openingOf_72 (fun x1 x2 x3 S => w_X7_openingOf_4  Q n x1 x2 x3 S) Q x1 x2 x3 S7)))) ∧ (¬ k9 = 0 → Q k9 0 S7)))))) ∧ (¬ k6 = 0 → Q k6 0 S4)))
theorem k_X7_openingOf_4 (hT : xT X = tb1) (hl : l.stackTraces = false) (C : Cn X k0 p l R s m meth c cX7_openingOf RX7 5 4 81) (hr : meth.sig.returnType = (some .int)) (hnm : meth.name = yX7_openingOf.name) (htab : ∀ x ∈ c.exceptionTable.toList, False)  : ∀ n {x1 : Int32} {x2 : Int32} {x3 : Int32} {S : Sg}, w_X7_openingOf_4  Qa n x1 x2 x3 S → V X p l e R s m args below meth c 5 (QM X below args s S0 ad0 rvI Qa) S0 ad0 S 4 [(0, Value.ref (enc 0 0)), (1, Value.ref (enc 4 (nt x1))), (2, Value.int x2), (3, Value.int x3)] [] := by
  intro n
  induction n with
  | zero => intro x1 x2 x3 S h; exact h.elim
  | succ n ih =>
    intro x1 x2 x3 S h
    refine V_iload_n (pc := 4) C dX7_openingOf_4 rfl 3 rfl ?_
    refine V_aload_n (pc := 5) C dX7_openingOf_5 rfl 0 rfl ?_
    refine V_getF (pc := 6) C hT f1_X7_3 g93 dX7_openingOf_6 ?_
    refine V_callV (pc := 9) C (ct_size hT hl h) g200 g201 g202 g203 g36 ⟨by decide, by decide, pl_Jx4a65c_size_8abf5⟩ (enc_ne63 (by decide)) (ct_obj hT rfl (by decide)) rfl ⟨by decide, by decide⟩ (rest := [Value.int x3]) rfl (le8 rfl) dX7_openingOf_9 (fun v5 S4 h => ?_) (fun k9 S9 hk h => VX_out C htab hk (h.2 (by omega)))
    replace h := h.1 rfl
    refine V_st (st' := [Value.int v5, Value.int x3]) rfl ?_
    refine V_icmp_ge (pc := 12) (tgt := 78) C dX7_openingOf_12 (by decide) h (fun h => ?_) (fun h => ?_)
    · refine V_iload_n (pc := 78) C dX7_openingOf_78 rfl 2 rfl ?_
      exact V_iret (pc := 79) C hr rfl h dX7_openingOf_79
    · refine V_aload_n (pc := 15) C dX7_openingOf_15 rfl 0 rfl ?_
      refine V_getF (pc := 16) C hT f1_X7_3 g93 dX7_openingOf_16 ?_
      refine V_iload_n (pc := 19) C dX7_openingOf_19 rfl 3 rfl ?_
      refine V_callV (pc := 20) C (ct_get hT hl (by decide) h) g332 g333 g334 g335 g36 ⟨by decide, by decide, pl_Jx4a65c_get_915e3⟩ (enc_ne63 (by decide)) (ct_obj hT rfl (by decide)) rfl ⟨by decide, by decide⟩ (rest := []) rfl (le8 rfl) dX7_openingOf_20 (fun v8 S7 h => ?_) (fun k9 S9 hk h => VX_out C htab hk (h.2 (by omega)))
      replace h := h.1 rfl
      refine V_st (st' := [Value.ref (enc 6 (nt v8))]) rfl ?_
      refine V_cast (pc := 23) C hT (by decide) rfl rfl g451 dX7_openingOf_23 ?_
      refine V_astore (pc := 26) C dX7_openingOf_26 (by decide) rfl ?_
      refine V_aload (pc := 28) C dX7_openingOf_28 0 rfl ?_
      refine V_getR (pc := 30) C hT f1_X5_1 (by decide) g501 dX7_openingOf_30 h (fun h => ?_)
      refine V_getI (pc := 33) C hT f1_X0_0 g359 dX7_openingOf_33 ?_
      refine V_aload_n (pc := 36) C dX7_openingOf_36 rfl 2 rfl ?_
      refine V_getI (pc := 37) C hT f1_X0_0 g359 dX7_openingOf_37 ?_
      refine V_icmp_ne (pc := 40) (tgt := 72) C dX7_openingOf_40 (by decide) h (fun h => ?_) (fun h => ?_)
      · refine V_sub [1, 2, 3, 4] rfl ?_
        exact k_X7_openingOf_72 hT hl C hr hnm htab (fun h => ih h) h
      · refine V_aload (pc := 43) C dX7_openingOf_43 0 rfl ?_
        refine V_getI (pc := 45) C hT f1_X5_6 g511 dX7_openingOf_45 ?_
        refine V_iconst (pc := 48) C (v := 4) dX7_openingOf_48 rfl ?_
        refine V_icmp_eq (pc := 49) (tgt := 72) C dX7_openingOf_49 (by decide) h (fun h => ?_) (fun h => ?_)
        · refine V_sub [1, 2, 3, 4] rfl ?_
          exact k_X7_openingOf_72 hT hl C hr hnm htab (fun h => ih h) h
        · refine V_iload_n (pc := 52) C dX7_openingOf_52 rfl 3 rfl ?_
          refine V_iconst (pc := 53) C (v := (-1)) dX7_openingOf_53 rfl ?_
          refine V_icmp_eq (pc := 54) (tgt := 66) C dX7_openingOf_54 (by decide) h (fun h => ?_) (fun h => ?_)
          · refine V_sub [1, 2, 4, 0] rfl ?_
            exact k_X7_openingOf_66 hT hl C hr hnm htab (fun h => ih h) h
          · refine V_aload (pc := 57) C dX7_openingOf_57 0 rfl ?_
            refine V_callV (pc := 59) C (ct_X5_week hT hl h) g846 g847 g848 g849 g52 ⟨by decide, by decide, pl_X5_week⟩ (enc_ne63 (by decide)) (ct_obj hT rfl (by decide)) rfl ⟨by decide, by decide⟩ (rest := []) rfl (le8 rfl) dX7_openingOf_59 (fun v11 S10 h => ?_) (fun k9 S9 hk h => VX_out C htab hk (h.2 (by omega)))
            replace h := h.1 rfl
            refine V_st (st' := [Value.int v11]) rfl ?_
            refine V_iload_n (pc := 62) C dX7_openingOf_62 rfl 3 rfl ?_
            refine V_icmp_ge (pc := 63) (tgt := 72) C dX7_openingOf_63 (by decide) h (fun h => ?_) (fun h => ?_)
            · refine V_sub [1, 2, 3, 4] rfl ?_
              exact k_X7_openingOf_72 hT hl C hr hnm htab (fun h => ih h) h
            · refine V_sub [1, 2, 4, 0] rfl ?_
              exact k_X7_openingOf_66 hT hl C hr hnm htab (fun h => ih h) h
def w_X7_openingOf (a1 : Int32) (S : Sg) (Q : Nat → Int32 → Sg → Prop) : Prop := ∃ n9, w_X7_openingOf_4  Q n9 a1 (-1) 0 S
theorem ct_X7_openingOf (hT : xT X = tb1) (hl : l.stackTraces = false) {a1 : Int32} {S : Sg} (h : w_X7_openingOf a1 S Qa) : CT X k0 l yX7_openingOf cX7_openingOf 5 (some .int) 4 81 [Value.ref (enc 0 0), Value.ref (enc 4 (nt a1))] rvI S Qa :=
  CT_ofV (own := RX7) (by decide +kernel) (le8 rfl) rfl hl fun p e R s m args below meth c ad0 C hr hnm htab => by
    refine V_iconst (pc := 0) C (v := (-1)) dX7_openingOf_0 rfl ?_
    refine V_istore_n (pc := 1) C dX7_openingOf_1 rfl (by decide) rfl ?_
    refine V_iconst (pc := 2) C (v := 0) dX7_openingOf_2 rfl ?_
    refine V_istore_n (pc := 3) C dX7_openingOf_3 rfl (by decide) rfl ?_
    refine V_sub [2, 3, 1, 0] rfl ?_
    obtain ⟨n9, h⟩ := h
    exact k_X7_openingOf_4 hT hl C hr hnm htab  n9 h
theorem pl_X7_takenIn : (parseMethodDescriptor yX7_takenIn.desc).map (fun d => d.parameters.length) = some 2 := by decide +kernel
def w_X7_takenIn_81 (k19 : Int32 → Int32 → Int32 → Int32 → Int32 → Sg → Prop) (Q : Nat → Int32 → Sg → Prop) (x1 : Int32) (x2 : Int32) (x3 : Int32) (x4 : Int32) (x5 : Int32) (S : Sg) : Prop := k19 x1 x2 x3 x4 (x5 + 1) S
theorem k_X7_takenIn_81 (hT : xT X = tb1) (hl : l.stackTraces = false) (C : Cn X k0 p l R s m meth c cX7_takenIn RX7 7 5 105) (hr : meth.sig.returnType = (some .int)) (hnm : meth.name = yX7_takenIn.name) (htab : ∀ x ∈ c.exceptionTable.toList, False) {k19 : Int32 → Int32 → Int32 → Int32 → Int32 → Sg → Prop} (hk19 : ∀ {x1 : Int32} {x2 : Int32} {x3 : Int32} {x4 : Int32} {x5 : Int32} {S : Sg}, k19 x1 x2 x3 x4 x5 S → V X p l e R s m args below meth c 7 (QM X below args s S0 ad0 rvI Qa) S0 ad0 S 19 [(0, Value.ref (enc 0 0)), (1, Value.ref (enc 4 (nt x1))), (2, Value.int x2), (3, Value.int x3), (4, Value.int x4), (5, Value.int x5)] []) {x1 : Int32} {x2 : Int32} {x3 : Int32} {x4 : Int32} {x5 : Int32} {S : Sg} (h : w_X7_takenIn_81 k19 Qa x1 x2 x3 x4 x5 S) : V X p l e R s m args below meth c 7 (QM X below args s S0 ad0 rvI Qa) S0 ad0 S 81 [(0, Value.ref (enc 0 0)), (1, Value.ref (enc 4 (nt x1))), (2, Value.int x2), (3, Value.int x3), (4, Value.int x4), (5, Value.int x5)] [] := by
  refine V_iinc (pc := 81) C (a := 5) (v := x5 + 1) dX7_takenIn_81 rfl rfl (by decide) rfl ?_
  refine V_goto (pc := 84) (tgt := 19) C dX7_takenIn_84 (by decide) ?_
  refine V_sub [1, 2, 3, 4, 5, 0] rfl ?_
  exact hk19 h
def w_X7_takenIn_19  (Q : Nat → Int32 → Sg → Prop) : Nat → Int32 → Int32 → Int32 → Int32 → Int32 → Sg → Prop
  | 0, _, _, _, _, _, _ => False
  | n + 1, x1, x2, x3, x4, x5, S => (w_size 3 S (fun k3 v2 S1 => (k3 = 0 → ((v2 ≤ x5 → Q 0 x4 S1) ∧ (¬ v2 ≤ x5 → (w_get 3 x5 S1 (fun k6 v5 S4 => (k6 = 0 → (¬ S4.1 51 (nt v5) < 0 ∧ (((S4.1 30 (nt (S4.1 51 (nt v5)))) = (S4.1 30 (nt x1)) → (w_X5_week v5 S4 (fun k9 v8 S7 => (k9 = 0 → ((v8 = (x3 + x2) → (∀ v10, v10 = x4 + (S7.1 57 (nt v5)) → w_X7_takenIn_81 (fun x1 x2 x3 x4 x5 S => w_X7_takenIn_19  Q n x1 x2 x3 x4 x5 S) Q x1 x2 x3 v10 x5 S7)) ∧ (¬ v8 = (x3 + x2) → w_X7_takenIn_81 (fun x1 x2 x3 x4 x5 S => w_X7_takenIn_19  Q n x1 x2 x3 x4 x5 S) Q x1 x2 x3 x4 x5 S7))) ∧ (¬ k9 = 0 → Q k9 0 S7)))) ∧ (¬ (S4.1 30 (nt (S4.1 51 (nt v5)))) = (S4.1 30 (nt x1)) → w_X7_takenIn_81 (fun x1 x2 x3 x4 x5 S => w_X7_takenIn_19  Q n x1 x2 x3 x4 x5 S) Q x1 x2 x3 x4 x5 S4)))) ∧ (¬ k6 = 0 → Q k6 0 S4)))))) ∧ (¬ k3 = 0 → Q k3 0 S1)))
theorem k_X7_takenIn_19 (hT : xT X = tb1) (hl : l.stackTraces = false) (C : Cn X k0 p l R s m meth c cX7_takenIn RX7 7 5 105) (hr : meth.sig.returnType = (some .int)) (hnm : meth.name = yX7_takenIn.name) (htab : ∀ x ∈ c.exceptionTable.toList, False)  : ∀ n {x1 : Int32} {x2 : Int32} {x3 : Int32} {x4 : Int32} {x5 : Int32} {S : Sg}, w_X7_takenIn_19  Qa n x1 x2 x3 x4 x5 S → V X p l e R s m args below meth c 7 (QM X below args s S0 ad0 rvI Qa) S0 ad0 S 19 [(0, Value.ref (enc 0 0)), (1, Value.ref (enc 4 (nt x1))), (2, Value.int x2), (3, Value.int x3), (4, Value.int x4), (5, Value.int x5)] [] := by
  intro n
  induction n with
  | zero => intro x1 x2 x3 x4 x5 S h; exact h.elim
  | succ n ih =>
    intro x1 x2 x3 x4 x5 S h
    refine V_iload (pc := 19) C dX7_takenIn_19 5 rfl ?_
    refine V_aload_n (pc := 21) C dX7_takenIn_21 rfl 0 rfl ?_
    refine V_getF (pc := 22) C hT f1_X7_3 g93 dX7_takenIn_22 ?_
    refine V_callV (pc := 25) C (ct_size hT hl h) g200 g201 g202 g203 g36 ⟨by decide, by decide, pl_Jx4a65c_size_8abf5⟩ (enc_ne63 (by decide)) (ct_obj hT rfl (by decide)) rfl ⟨by decide, by decide⟩ (rest := [Value.int x5]) rfl (le8 rfl) dX7_takenIn_25 (fun v2 S1 h => ?_) (fun k9 S9 hk h => VX_out C htab hk (h.2 (by omega)))
    replace h := h.1 rfl
    refine V_st (st' := [Value.int v2, Value.int x5]) rfl ?_
    refine V_icmp_ge (pc := 28) (tgt := 87) C dX7_takenIn_28 (by decide) h (fun h => ?_) (fun h => ?_)
    · refine V_iload (pc := 87) C dX7_takenIn_87 4 rfl ?_
      exact V_iret (pc := 89) C hr rfl h dX7_takenIn_89
    · refine V_aload_n (pc := 31) C dX7_takenIn_31 rfl 0 rfl ?_
      refine V_getF (pc := 32) C hT f1_X7_3 g93 dX7_takenIn_32 ?_
      refine V_iload (pc := 35) C dX7_takenIn_35 5 rfl ?_
      refine V_callV (pc := 37) C (ct_get hT hl (by decide) h) g332 g333 g334 g335 g36 ⟨by decide, by decide, pl_Jx4a65c_get_915e3⟩ (enc_ne63 (by decide)) (ct_obj hT rfl (by decide)) rfl ⟨by decide, by decide⟩ (rest := []) rfl (le8 rfl) dX7_takenIn_37 (fun v5 S4 h => ?_) (fun k9 S9 hk h => VX_out C htab hk (h.2 (by omega)))
      replace h := h.1 rfl
      refine V_st (st' := [Value.ref (enc 6 (nt v5))]) rfl ?_
      refine V_cast (pc := 40) C hT (by decide) rfl rfl g451 dX7_takenIn_40 ?_
      refine V_astore (pc := 43) C dX7_takenIn_43 (by decide) rfl ?_
      refine V_aload (pc := 45) C dX7_takenIn_45 0 rfl ?_
      refine V_getR (pc := 47) C hT f1_X5_1 (by decide) g501 dX7_takenIn_47 h (fun h => ?_)
      refine V_getI (pc := 50) C hT f1_X0_0 g359 dX7_takenIn_50 ?_
      refine V_aload_n (pc := 53) C dX7_takenIn_53 rfl 2 rfl ?_
      refine V_getI (pc := 54) C hT f1_X0_0 g359 dX7_takenIn_54 ?_
      refine V_icmp_ne (pc := 57) (tgt := 81) C dX7_takenIn_57 (by decide) h (fun h => ?_) (fun h => ?_)
      · refine V_sub [1, 2, 3, 4, 5, 6] rfl ?_
        exact k_X7_takenIn_81 hT hl C hr hnm htab (fun h => ih h) h
      · refine V_aload (pc := 60) C dX7_takenIn_60 0 rfl ?_
        refine V_callV (pc := 62) C (ct_X5_week hT hl h) g846 g847 g848 g849 g52 ⟨by decide, by decide, pl_X5_week⟩ (enc_ne63 (by decide)) (ct_obj hT rfl (by decide)) rfl ⟨by decide, by decide⟩ (rest := []) rfl (le8 rfl) dX7_takenIn_62 (fun v8 S7 h => ?_) (fun k9 S9 hk h => VX_out C htab hk (h.2 (by omega)))
        replace h := h.1 rfl
        refine V_st (st' := [Value.int v8]) rfl ?_
        refine V_iload_n (pc := 65) C dX7_takenIn_65 rfl 4 rfl ?_
        refine V_iload_n (pc := 66) C dX7_takenIn_66 rfl 3 rfl ?_
        refine V_iadd (pc := 67) C dX7_takenIn_67 ?_
        refine V_icmp_ne (pc := 68) (tgt := 81) C dX7_takenIn_68 (by decide) h (fun h => ?_) (fun h => ?_)
        · refine V_sub [1, 2, 3, 4, 5, 6] rfl ?_
          exact k_X7_takenIn_81 hT hl C hr hnm htab (fun h => ih h) h
        · refine V_iload (pc := 71) C dX7_takenIn_71 5 rfl ?_
          refine V_aload (pc := 73) C dX7_takenIn_73 0 rfl ?_
          refine V_getI (pc := 75) C hT f1_X5_7 g514 dX7_takenIn_75 ?_
          refine V_iadd (pc := 78) C dX7_takenIn_78 ?_
          refine V_nI fun v10 e9 => ?_
          replace h := h v10 e9; clear e9
          refine V_istore (pc := 79) C dX7_takenIn_79 (by decide) rfl ?_
          refine V_sub [2, 3, 4, 5, 0, 6] rfl ?_
          exact k_X7_takenIn_81 hT hl C hr hnm htab (fun h => ih h) h
def w_X7_takenIn (a1 : Int32) (a2 : Int32) (S : Sg) (Q : Nat → Int32 → Sg → Prop) : Prop := (w_X7_openingOf a1 S (fun k13 v12 S11 => (k13 = 0 → ((v12 = (-1) → Q 0 0 S11) ∧ (¬ v12 = (-1) → ∃ n9, w_X7_takenIn_19  Q n9 a1 a2 v12 0 0 S11))) ∧ (¬ k13 = 0 → Q k13 0 S11)))
theorem ct_X7_takenIn (hT : xT X = tb1) (hl : l.stackTraces = false) {a1 : Int32} {a2 : Int32} {S : Sg} (h : w_X7_takenIn a1 a2 S Qa) : CT X k0 l yX7_takenIn cX7_takenIn 7 (some .int) 5 105 [Value.ref (enc 0 0), Value.ref (enc 4 (nt a1)), Value.int a2] rvI S Qa :=
  CT_ofV (own := RX7) (by decide +kernel) (le8 rfl) rfl hl fun p e R s m args below meth c ad0 C hr hnm htab => by
    refine V_aload_n (pc := 0) C dX7_takenIn_0 rfl 0 rfl ?_
    refine V_aload_n (pc := 1) C dX7_takenIn_1 rfl 1 rfl ?_
    refine V_callV (pc := 2) C (ct_X7_openingOf hT hl h) g842 g844 g31 g845 g33 ⟨by decide, by decide, pl_X7_openingOf⟩ (enc_ne63 (by decide)) (ct_obj hT rfl (by decide)) rfl ⟨by decide, by decide⟩ (rest := []) rfl (le8 rfl) dX7_takenIn_2 (fun v12 S11 h => ?_) (fun k9 S9 hk h => VX_out C htab hk (h.2 (by omega)))
    replace h := h.1 rfl
    refine V_st (st' := [Value.int v12]) rfl ?_
    refine V_istore_n (pc := 5) C dX7_takenIn_5 rfl (by decide) rfl ?_
    refine V_iload_n (pc := 6) C dX7_takenIn_6 rfl 0 rfl ?_
    refine V_iconst (pc := 7) C (v := (-1)) dX7_takenIn_7 rfl ?_
    refine V_icmp_ne (pc := 8) (tgt := 13) C dX7_takenIn_8 (by decide) h (fun h => ?_) (fun h => ?_)
    · refine V_iconst (pc := 13) C (v := 0) dX7_takenIn_13 rfl ?_
      refine V_istore (pc := 14) C dX7_takenIn_14 (by decide) rfl ?_
      refine V_iconst (pc := 16) C (v := 0) dX7_takenIn_16 rfl ?_
      refine V_istore (pc := 17) C dX7_takenIn_17 (by decide) rfl ?_
      refine V_sub [3, 4, 5, 2, 1, 0] rfl ?_
      obtain ⟨n9, h⟩ := h
      exact k_X7_takenIn_19 hT hl C hr hnm htab  n9 h
    · refine V_iconst (pc := 11) C (v := 0) dX7_takenIn_11 rfl ?_
      exact V_iret (pc := 12) C hr rfl h dX7_takenIn_12
theorem pl_X7_takings : (parseMethodDescriptor yX7_takings.desc).map (fun d => d.parameters.length) = some 2 := by decide +kernel
def w_X7_takings (a1 : Int32) (a2 : Int32) (S : Sg) (Q : Nat → Int32 → Sg → Prop) : Prop := (w_X7_filmAt a1 S (fun k3 v2 S1 => (k3 = 0 → (w_X7_needWithin a2 0 9 S1 (fun k6 v5 S4 => (k6 = 0 → (w_X7_takenIn v2 a2 S4 (fun k9 v8 S7 => (k9 = 0 → Q 0 v8 S7) ∧ (¬ k9 = 0 → Q k9 0 S7)))) ∧ (¬ k6 = 0 → Q k6 0 S4)))) ∧ (¬ k3 = 0 → Q k3 0 S1)))
theorem ct_X7_takings (hT : xT X = tb1) (hl : l.stackTraces = false) {a1 : Int32} {a2 : Int32} {S : Sg} (h : w_X7_takings a1 a2 S Qa) : CT X k0 l yX7_takings cX7_takings 4 (some .int) 7 131 [Value.ref (enc 0 0), Value.int a1, Value.int a2] rvI S Qa :=
  CT_ofV (own := RX7) (by decide +kernel) (le8 rfl) rfl hl fun p e R s m args below meth c ad0 C hr hnm htab => by
    refine V_aload_n (pc := 0) C dX7_takings_0 rfl 0 rfl ?_
    refine V_iload_n (pc := 1) C dX7_takings_1 rfl 1 rfl ?_
    refine V_callV (pc := 2) C (ct_X7_filmAt hT hl h) g400 g402 g5 g403 g33 ⟨by decide, by decide, pl_X7_filmAt⟩ (enc_ne63 (by decide)) (ct_obj hT rfl (by decide)) rfl ⟨by decide, by decide⟩ (rest := []) rfl (le8 rfl) dX7_takings_2 (fun v2 S1 h => ?_) (fun k9 S9 hk h => VX_out C htab hk (h.2 (by omega)))
    replace h := h.1 rfl
    refine V_st (st' := [Value.ref (enc 4 (nt v2))]) rfl ?_
    refine V_astore_n (pc := 5) C dX7_takings_5 rfl (by decide) rfl ?_
    refine V_iload_n (pc := 6) C dX7_takings_6 rfl 3 rfl ?_
    refine V_iconst (pc := 7) C (v := 0) dX7_takings_7 rfl ?_
    refine V_bipush (pc := 8) C (v := 9) dX7_takings_8 rfl ?_
    refine V_callS (pc := 10) C (ct_X7_needWithin hT hl h) g129 g130 g131 g33 ⟨by decide, by decide, pl_X7_needWithin⟩ ⟨by decide, by decide⟩ (rest := []) rfl (le8 rfl) dX7_takings_10 (fun v5 S4 h => ?_) (fun k9 S9 hk h => VX_out C htab hk (h.2 (by omega)))
    replace h := h.1 rfl
    refine V_st (st' := []) rfl ?_
    refine V_aload_n (pc := 13) C dX7_takings_13 rfl 1 rfl ?_
    refine V_aload_n (pc := 14) C dX7_takings_14 rfl 0 rfl ?_
    refine V_iload_n (pc := 15) C dX7_takings_15 rfl 3 rfl ?_
    refine V_callV (pc := 16) C (ct_X7_takenIn hT hl h) g838 g840 g30 g841 g33 ⟨by decide, by decide, pl_X7_takenIn⟩ (enc_ne63 (by decide)) (ct_obj hT rfl (by decide)) rfl ⟨by decide, by decide⟩ (rest := []) rfl (le8 rfl) dX7_takings_16 (fun v8 S7 h => ?_) (fun k9 S9 hk h => VX_out C htab hk (h.2 (by omega)))
    replace h := h.1 rfl
    refine V_st (st' := [Value.int v8]) rfl ?_
    exact V_iret (pc := 19) C hr rfl h dX7_takings_19
theorem pl_X7_takingsAnew : (parseMethodDescriptor yX7_takingsAnew.desc).map (fun d => d.parameters.length) = some 2 := by decide +kernel
def w_X7_takingsAnew_100 (k34 : Int32 → Int32 → Int32 → Int32 → Int32 → Sg → Prop) (Q : Nat → Int32 → Sg → Prop) (x1 : Int32) (x2 : Int32) (x4 : Int32) (x5 : Int32) (x6 : Int32) (S : Sg) : Prop := k34 x1 x2 x4 x5 (x6 + 1) S
theorem k_X7_takingsAnew_100 (hT : xT X = tb1) (hl : l.stackTraces = false) (C : Cn X k0 p l R s m meth c cX7_takingsAnew RX7 8 7 105) (hr : meth.sig.returnType = (some .int)) (hnm : meth.name = yX7_takingsAnew.name) (htab : ∀ x ∈ c.exceptionTable.toList, False) {k34 : Int32 → Int32 → Int32 → Int32 → Int32 → Sg → Prop} (hk34 : ∀ {x1 : Int32} {x2 : Int32} {x4 : Int32} {x5 : Int32} {x6 : Int32} {S : Sg}, k34 x1 x2 x4 x5 x6 S → V X p l e R s m args below meth c 8 (QM X below args s S0 ad0 rvI Qa) S0 ad0 S 34 [(0, Value.ref (enc 0 0)), (1, Value.int x1), (2, Value.int x2), (4, Value.int x4), (5, Value.int x5), (6, Value.int x6)] []) {x1 : Int32} {x2 : Int32} {x4 : Int32} {x5 : Int32} {x6 : Int32} {S : Sg} (h : w_X7_takingsAnew_100 k34 Qa x1 x2 x4 x5 x6 S) : V X p l e R s m args below meth c 8 (QM X below args s S0 ad0 rvI Qa) S0 ad0 S 100 [(0, Value.ref (enc 0 0)), (1, Value.int x1), (2, Value.int x2), (4, Value.int x4), (5, Value.int x5), (6, Value.int x6)] [] := by
  refine V_iinc (pc := 100) C (a := 5) (v := x6 + 1) dX7_takingsAnew_100 rfl rfl (by decide) rfl ?_
  refine V_goto (pc := 103) (tgt := 34) C dX7_takingsAnew_103 (by decide) ?_
  refine V_sub [1, 2, 3, 4, 5, 0] rfl ?_
  exact hk34 h
def w_X7_takingsAnew_34  (Q : Nat → Int32 → Sg → Prop) : Nat → Int32 → Int32 → Int32 → Int32 → Int32 → Sg → Prop
  | 0, _, _, _, _, _, _ => False
  | n + 1, x1, x2, x4, x5, x6, S => (w_size 5 S (fun k3 v2 S1 => (k3 = 0 → ((v2 ≤ x6 → Q 0 x5 S1) ∧ (¬ v2 ≤ x6 → (w_get 5 x6 S1 (fun k6 v5 S4 => (k6 = 0 → (¬ S4.1 70 (nt v5) < 0 ∧ (¬ S4.1 51 (nt (S4.1 70 (nt v5))) < 0 ∧ (((S4.1 30 (nt (S4.1 51 (nt (S4.1 70 (nt v5)))))) = x1 → (¬ S4.1 70 (nt v5) < 0 ∧ (w_X5_week (S4.1 70 (nt v5)) S4 (fun k9 v8 S7 => (k9 = 0 → ((v8 = (x4 + x2) → (∀ v10, v10 = x5 + (S7.1 73 (nt v5)) → w_X7_takingsAnew_100 (fun x1 x2 x4 x5 x6 S => w_X7_takingsAnew_34  Q n x1 x2 x4 x5 x6 S) Q x1 x2 x4 v10 x6 S7)) ∧ (¬ v8 = (x4 + x2) → w_X7_takingsAnew_100 (fun x1 x2 x4 x5 x6 S => w_X7_takingsAnew_34  Q n x1 x2 x4 x5 x6 S) Q x1 x2 x4 x5 x6 S7))) ∧ (¬ k9 = 0 → Q k9 0 S7))))) ∧ (¬ (S4.1 30 (nt (S4.1 51 (nt (S4.1 70 (nt v5)))))) = x1 → w_X7_takingsAnew_100 (fun x1 x2 x4 x5 x6 S => w_X7_takingsAnew_34  Q n x1 x2 x4 x5 x6 S) Q x1 x2 x4 x5 x6 S4))))) ∧ (¬ k6 = 0 → Q k6 0 S4)))))) ∧ (¬ k3 = 0 → Q k3 0 S1)))
theorem k_X7_takingsAnew_34 (hT : xT X = tb1) (hl : l.stackTraces = false) (C : Cn X k0 p l R s m meth c cX7_takingsAnew RX7 8 7 105) (hr : meth.sig.returnType = (some .int)) (hnm : meth.name = yX7_takingsAnew.name) (htab : ∀ x ∈ c.exceptionTable.toList, False)  : ∀ n {x1 : Int32} {x2 : Int32} {x4 : Int32} {x5 : Int32} {x6 : Int32} {S : Sg}, w_X7_takingsAnew_34  Qa n x1 x2 x4 x5 x6 S → V X p l e R s m args below meth c 8 (QM X below args s S0 ad0 rvI Qa) S0 ad0 S 34 [(0, Value.ref (enc 0 0)), (1, Value.int x1), (2, Value.int x2), (4, Value.int x4), (5, Value.int x5), (6, Value.int x6)] [] := by
  intro n
  induction n with
  | zero => intro x1 x2 x4 x5 x6 S h; exact h.elim
  | succ n ih =>
    intro x1 x2 x4 x5 x6 S h
    refine V_iload (pc := 34) C dX7_takingsAnew_34 5 rfl ?_
    refine V_aload_n (pc := 36) C dX7_takingsAnew_36 rfl 0 rfl ?_
    refine V_getF (pc := 37) C hT f1_X7_5 g95 dX7_takingsAnew_37 ?_
    refine V_callV (pc := 40) C (ct_size hT hl h) g200 g201 g202 g203 g36 ⟨by decide, by decide, pl_Jx4a65c_size_8abf5⟩ (enc_ne63 (by decide)) (ct_obj hT rfl (by decide)) rfl ⟨by decide, by decide⟩ (rest := [Value.int x6]) rfl (le8 rfl) dX7_takingsAnew_40 (fun v2 S1 h => ?_) (fun k9 S9 hk h => VX_out C htab hk (h.2 (by omega)))
    replace h := h.1 rfl
    refine V_st (st' := [Value.int v2, Value.int x6]) rfl ?_
    refine V_icmp_ge (pc := 43) (tgt := 106) C dX7_takingsAnew_43 (by decide) h (fun h => ?_) (fun h => ?_)
    · refine V_iload (pc := 106) C dX7_takingsAnew_106 4 rfl ?_
      exact V_iret (pc := 108) C hr rfl h dX7_takingsAnew_108
    · refine V_aload_n (pc := 46) C dX7_takingsAnew_46 rfl 0 rfl ?_
      refine V_getF (pc := 47) C hT f1_X7_5 g95 dX7_takingsAnew_47 ?_
      refine V_iload (pc := 50) C dX7_takingsAnew_50 5 rfl ?_
      refine V_callV (pc := 52) C (ct_get hT hl (by decide) h) g332 g333 g334 g335 g36 ⟨by decide, by decide, pl_Jx4a65c_get_915e3⟩ (enc_ne63 (by decide)) (ct_obj hT rfl (by decide)) rfl ⟨by decide, by decide⟩ (rest := []) rfl (le8 rfl) dX7_takingsAnew_52 (fun v5 S4 h => ?_) (fun k9 S9 hk h => VX_out C htab hk (h.2 (by omega)))
      replace h := h.1 rfl
      refine V_st (st' := [Value.ref (enc 8 (nt v5))]) rfl ?_
      refine V_cast (pc := 55) C hT (by decide) rfl rfl g545 dX7_takingsAnew_55 ?_
      refine V_astore (pc := 58) C dX7_takingsAnew_58 (by decide) rfl ?_
      refine V_aload (pc := 60) C dX7_takingsAnew_60 0 rfl ?_
      refine V_getR (pc := 62) C hT f1_X6_0 (by decide) g607 dX7_takingsAnew_62 h (fun h => ?_)
      refine V_getR (pc := 65) C hT f1_X5_1 (by decide) g501 dX7_takingsAnew_65 h (fun h => ?_)
      refine V_getI (pc := 68) C hT f1_X0_0 g359 dX7_takingsAnew_68 ?_
      refine V_iload_n (pc := 71) C dX7_takingsAnew_71 rfl 2 rfl ?_
      refine V_icmp_ne (pc := 72) (tgt := 100) C dX7_takingsAnew_72 (by decide) h (fun h => ?_) (fun h => ?_)
      · refine V_sub [1, 2, 3, 4, 5, 6] rfl ?_
        exact k_X7_takingsAnew_100 hT hl C hr hnm htab (fun h => ih h) h
      · refine V_aload (pc := 75) C dX7_takingsAnew_75 0 rfl ?_
        refine V_getR (pc := 77) C hT f1_X6_0 (by decide) g607 dX7_takingsAnew_77 h (fun h => ?_)
        refine V_callV (pc := 80) C (ct_X5_week hT hl h) g846 g847 g848 g849 g52 ⟨by decide, by decide, pl_X5_week⟩ (enc_ne63 (by decide)) (ct_obj hT rfl (by decide)) rfl ⟨by decide, by decide⟩ (rest := []) rfl (le8 rfl) dX7_takingsAnew_80 (fun v8 S7 h => ?_) (fun k9 S9 hk h => VX_out C htab hk (h.2 (by omega)))
        replace h := h.1 rfl
        refine V_st (st' := [Value.int v8]) rfl ?_
        refine V_iload (pc := 83) C dX7_takingsAnew_83 4 rfl ?_
        refine V_iload_n (pc := 85) C dX7_takingsAnew_85 rfl 3 rfl ?_
        refine V_iadd (pc := 86) C dX7_takingsAnew_86 ?_
        refine V_icmp_ne (pc := 87) (tgt := 100) C dX7_takingsAnew_87 (by decide) h (fun h => ?_) (fun h => ?_)
        · refine V_sub [1, 2, 3, 4, 5, 6] rfl ?_
          exact k_X7_takingsAnew_100 hT hl C hr hnm htab (fun h => ih h) h
        · refine V_iload (pc := 90) C dX7_takingsAnew_90 5 rfl ?_
          refine V_aload (pc := 92) C dX7_takingsAnew_92 0 rfl ?_
          refine V_getI (pc := 94) C hT f1_X6_3 g613 dX7_takingsAnew_94 ?_
          refine V_iadd (pc := 97) C dX7_takingsAnew_97 ?_
          refine V_nI fun v10 e9 => ?_
          replace h := h v10 e9; clear e9
          refine V_istore (pc := 98) C dX7_takingsAnew_98 (by decide) rfl ?_
          refine V_sub [2, 3, 4, 5, 0, 6] rfl ?_
          exact k_X7_takingsAnew_100 hT hl C hr hnm htab (fun h => ih h) h
def w_X7_takingsAnew (a1 : Int32) (a2 : Int32) (S : Sg) (Q : Nat → Int32 → Sg → Prop) : Prop := (w_X7_filmAt a1 S (fun k13 v12 S11 => (k13 = 0 → (w_X7_needWithin a2 0 9 S11 (fun k16 v15 S14 => (k16 = 0 → (w_X7_openingOf v12 S14 (fun k19 v18 S17 => (k19 = 0 → ((v18 = (-1) → Q 0 0 S17) ∧ (¬ v18 = (-1) → ∃ n9, w_X7_takingsAnew_34  Q n9 a1 a2 v18 0 0 S17))) ∧ (¬ k19 = 0 → Q k19 0 S17)))) ∧ (¬ k16 = 0 → Q k16 0 S14)))) ∧ (¬ k13 = 0 → Q k13 0 S11)))
theorem ct_X7_takingsAnew (hT : xT X = tb1) (hl : l.stackTraces = false) {a1 : Int32} {a2 : Int32} {S : Sg} (h : w_X7_takingsAnew a1 a2 S Qa) : CT X k0 l yX7_takingsAnew cX7_takingsAnew 8 (some .int) 7 105 [Value.ref (enc 0 0), Value.int a1, Value.int a2] rvI S Qa :=
  CT_ofV (own := RX7) (by decide +kernel) (le8 rfl) rfl hl fun p e R s m args below meth c ad0 C hr hnm htab => by
    refine V_aload_n (pc := 0) C dX7_takingsAnew_0 rfl 0 rfl ?_
    refine V_iload_n (pc := 1) C dX7_takingsAnew_1 rfl 1 rfl ?_
    refine V_callV (pc := 2) C (ct_X7_filmAt hT hl h) g400 g402 g5 g403 g33 ⟨by decide, by decide, pl_X7_filmAt⟩ (enc_ne63 (by decide)) (ct_obj hT rfl (by decide)) rfl ⟨by decide, by decide⟩ (rest := []) rfl (le8 rfl) dX7_takingsAnew_2 (fun v12 S11 h => ?_) (fun k9 S9 hk h => VX_out C htab hk (h.2 (by omega)))
    replace h := h.1 rfl
    refine V_st (st' := [Value.ref (enc 4 (nt v12))]) rfl ?_
    refine V_astore_n (pc := 5) C dX7_takingsAnew_5 rfl (by decide) rfl ?_
    refine V_iload_n (pc := 6) C dX7_takingsAnew_6 rfl 3 rfl ?_
    refine V_iconst (pc := 7) C (v := 0) dX7_takingsAnew_7 rfl ?_
    refine V_bipush (pc := 8) C (v := 9) dX7_takingsAnew_8 rfl ?_
    refine V_callS (pc := 10) C (ct_X7_needWithin hT hl h) g129 g130 g131 g33 ⟨by decide, by decide, pl_X7_needWithin⟩ ⟨by decide, by decide⟩ (rest := []) rfl (le8 rfl) dX7_takingsAnew_10 (fun v15 S14 h => ?_) (fun k9 S9 hk h => VX_out C htab hk (h.2 (by omega)))
    replace h := h.1 rfl
    refine V_st (st' := []) rfl ?_
    refine V_aload_n (pc := 13) C dX7_takingsAnew_13 rfl 1 rfl ?_
    refine V_aload_n (pc := 14) C dX7_takingsAnew_14 rfl 0 rfl ?_
    refine V_callV (pc := 15) C (ct_X7_openingOf hT hl h) g842 g844 g31 g845 g33 ⟨by decide, by decide, pl_X7_openingOf⟩ (enc_ne63 (by decide)) (ct_obj hT rfl (by decide)) rfl ⟨by decide, by decide⟩ (rest := []) rfl (le8 rfl) dX7_takingsAnew_15 (fun v18 S17 h => ?_) (fun k9 S9 hk h => VX_out C htab hk (h.2 (by omega)))
    replace h := h.1 rfl
    refine V_st (st' := [Value.int v18]) rfl ?_
    refine V_istore (pc := 18) C dX7_takingsAnew_18 (by decide) rfl ?_
    refine V_iload (pc := 20) C dX7_takingsAnew_20 0 rfl ?_
    refine V_iconst (pc := 22) C (v := (-1)) dX7_takingsAnew_22 rfl ?_
    refine V_icmp_ne (pc := 23) (tgt := 28) C dX7_takingsAnew_23 (by decide) h (fun h => ?_) (fun h => ?_)
    · refine V_iconst (pc := 28) C (v := 0) dX7_takingsAnew_28 rfl ?_
      refine V_istore (pc := 29) C dX7_takingsAnew_29 (by decide) rfl ?_
      refine V_iconst (pc := 31) C (v := 0) dX7_takingsAnew_31 rfl ?_
      refine V_istore (pc := 32) C dX7_takingsAnew_32 (by decide) rfl ?_
      refine V_sub [4, 5, 6, 2, 1, 0] rfl ?_
      obtain ⟨n9, h⟩ := h
      exact k_X7_takingsAnew_34 hT hl C hr hnm htab  n9 h
    · refine V_iconst (pc := 26) C (v := 0) dX7_takingsAnew_26 rfl ?_
      exact V_iret (pc := 27) C hr rfl h dX7_takingsAnew_27
theorem pl_X7_share : (parseMethodDescriptor yX7_share.desc).map (fun d => d.parameters.length) = some 2 := by decide +kernel
def w_X7_share (a1 : Int32) (a2 : Int32) (S : Sg) (Q : Nat → Int32 → Sg → Prop) : Prop := (w_X7_filmAt a1 S (fun k3 v2 S1 => (k3 = 0 → (w_X7_needWithin a2 0 9 S1 (fun k6 v5 S4 => (k6 = 0 → (w_X7_takenIn v2 a2 S4 (fun k9 v8 S7 => (k9 = 0 → (w_X0_ownersOf v2 v8 a2 S7 (fun k12 v11 S10 => (k12 = 0 → Q 0 v11 S10) ∧ (¬ k12 = 0 → Q k12 0 S10)))) ∧ (¬ k9 = 0 → Q k9 0 S7)))) ∧ (¬ k6 = 0 → Q k6 0 S4)))) ∧ (¬ k3 = 0 → Q k3 0 S1)))
theorem ct_X7_share (hT : xT X = tb1) (hl : l.stackTraces = false) {a1 : Int32} {a2 : Int32} {S : Sg} (h : w_X7_share a1 a2 S Qa) : CT X k0 l yX7_share cX7_share 4 (some .int) 7 131 [Value.ref (enc 0 0), Value.int a1, Value.int a2] rvI S Qa :=
  CT_ofV (own := RX7) (by decide +kernel) (le8 rfl) rfl hl fun p e R s m args below meth c ad0 C hr hnm htab => by
    refine V_aload_n (pc := 0) C dX7_share_0 rfl 0 rfl ?_
    refine V_iload_n (pc := 1) C dX7_share_1 rfl 1 rfl ?_
    refine V_callV (pc := 2) C (ct_X7_filmAt hT hl h) g400 g402 g5 g403 g33 ⟨by decide, by decide, pl_X7_filmAt⟩ (enc_ne63 (by decide)) (ct_obj hT rfl (by decide)) rfl ⟨by decide, by decide⟩ (rest := []) rfl (le8 rfl) dX7_share_2 (fun v2 S1 h => ?_) (fun k9 S9 hk h => VX_out C htab hk (h.2 (by omega)))
    replace h := h.1 rfl
    refine V_st (st' := [Value.ref (enc 4 (nt v2))]) rfl ?_
    refine V_astore_n (pc := 5) C dX7_share_5 rfl (by decide) rfl ?_
    refine V_iload_n (pc := 6) C dX7_share_6 rfl 3 rfl ?_
    refine V_iconst (pc := 7) C (v := 0) dX7_share_7 rfl ?_
    refine V_bipush (pc := 8) C (v := 9) dX7_share_8 rfl ?_
    refine V_callS (pc := 10) C (ct_X7_needWithin hT hl h) g129 g130 g131 g33 ⟨by decide, by decide, pl_X7_needWithin⟩ ⟨by decide, by decide⟩ (rest := []) rfl (le8 rfl) dX7_share_10 (fun v5 S4 h => ?_) (fun k9 S9 hk h => VX_out C htab hk (h.2 (by omega)))
    replace h := h.1 rfl
    refine V_st (st' := []) rfl ?_
    refine V_aload_n (pc := 13) C dX7_share_13 rfl 0 rfl ?_
    refine V_aload_n (pc := 14) C dX7_share_14 rfl 1 rfl ?_
    refine V_aload_n (pc := 15) C dX7_share_15 rfl 0 rfl ?_
    refine V_iload_n (pc := 16) C dX7_share_16 rfl 3 rfl ?_
    refine V_callV (pc := 17) C (ct_X7_takenIn hT hl h) g838 g840 g30 g841 g33 ⟨by decide, by decide, pl_X7_takenIn⟩ (enc_ne63 (by decide)) (ct_obj hT rfl (by decide)) rfl ⟨by decide, by decide⟩ (rest := [Value.ref (enc 4 (nt v2))]) rfl (le8 rfl) dX7_share_17 (fun v8 S7 h => ?_) (fun k9 S9 hk h => VX_out C htab hk (h.2 (by omega)))
    replace h := h.1 rfl
    refine V_st (st' := [Value.int v8, Value.ref (enc 4 (nt v2))]) rfl ?_
    refine V_iload_n (pc := 20) C dX7_share_20 rfl 3 rfl ?_
    refine V_callV (pc := 21) C (ct_X0_ownersOf hT hl h) g858 g859 g860 g861 g50 ⟨by decide, by decide, pl_X0_ownersOf⟩ (enc_ne63 (by decide)) (ct_obj hT rfl (by decide)) rfl ⟨by decide, by decide⟩ (rest := []) rfl (le8 rfl) dX7_share_21 (fun v11 S10 h => ?_) (fun k9 S9 hk h => VX_out C htab hk (h.2 (by omega)))
    replace h := h.1 rfl
    refine V_st (st' := [Value.int v11]) rfl ?_
    exact V_iret (pc := 24) C hr rfl h dX7_share_24
theorem pl_X7_mustStay : (parseMethodDescriptor yX7_mustStay.desc).map (fun d => d.parameters.length) = some 2 := by decide +kernel
def w_X7_mustStay (a1 : Int32) (a2 : Int32) (S : Sg) (Q : Nat → Int32 → Sg → Prop) : Prop := (w_X7_filmAt a1 S (fun k3 v2 S1 => (k3 = 0 → (w_X7_needWithin a2 0 9 S1 (fun k6 v5 S4 => (k6 = 0 → (w_X7_openingOf v2 S4 (fun k9 v8 S7 => (k9 = 0 → ((v8 = (-1) → Q 0 0 S7) ∧ (¬ v8 = (-1) → (w_X7_takenIn v2 a2 S7 (fun k12 v11 S10 => (k12 = 0 → ((v11 < (S10.1 38 (nt v2)) → Q 0 0 S10) ∧ (¬ v11 < (S10.1 38 (nt v2)) → Q 0 1 S10))) ∧ (¬ k12 = 0 → Q k12 0 S10)))))) ∧ (¬ k9 = 0 → Q k9 0 S7)))) ∧ (¬ k6 = 0 → Q k6 0 S4)))) ∧ (¬ k3 = 0 → Q k3 0 S1)))
theorem ct_X7_mustStay (hT : xT X = tb1) (hl : l.stackTraces = false) {a1 : Int32} {a2 : Int32} {S : Sg} (h : w_X7_mustStay a1 a2 S Qa) : CT X k0 l yX7_mustStay cX7_mustStay 4 (some .boolean) 7 131 [Value.ref (enc 0 0), Value.int a1, Value.int a2] rvI S Qa :=
  CT_ofV (own := RX7) (by decide +kernel) (le8 rfl) rfl hl fun p e R s m args below meth c ad0 C hr hnm htab => by
    refine V_aload_n (pc := 0) C dX7_mustStay_0 rfl 0 rfl ?_
    refine V_iload_n (pc := 1) C dX7_mustStay_1 rfl 1 rfl ?_
    refine V_callV (pc := 2) C (ct_X7_filmAt hT hl h) g400 g402 g5 g403 g33 ⟨by decide, by decide, pl_X7_filmAt⟩ (enc_ne63 (by decide)) (ct_obj hT rfl (by decide)) rfl ⟨by decide, by decide⟩ (rest := []) rfl (le8 rfl) dX7_mustStay_2 (fun v2 S1 h => ?_) (fun k9 S9 hk h => VX_out C htab hk (h.2 (by omega)))
    replace h := h.1 rfl
    refine V_st (st' := [Value.ref (enc 4 (nt v2))]) rfl ?_
    refine V_astore_n (pc := 5) C dX7_mustStay_5 rfl (by decide) rfl ?_
    refine V_iload_n (pc := 6) C dX7_mustStay_6 rfl 3 rfl ?_
    refine V_iconst (pc := 7) C (v := 0) dX7_mustStay_7 rfl ?_
    refine V_bipush (pc := 8) C (v := 9) dX7_mustStay_8 rfl ?_
    refine V_callS (pc := 10) C (ct_X7_needWithin hT hl h) g129 g130 g131 g33 ⟨by decide, by decide, pl_X7_needWithin⟩ ⟨by decide, by decide⟩ (rest := []) rfl (le8 rfl) dX7_mustStay_10 (fun v5 S4 h => ?_) (fun k9 S9 hk h => VX_out C htab hk (h.2 (by omega)))
    replace h := h.1 rfl
    refine V_st (st' := []) rfl ?_
    refine V_aload_n (pc := 13) C dX7_mustStay_13 rfl 1 rfl ?_
    refine V_aload_n (pc := 14) C dX7_mustStay_14 rfl 0 rfl ?_
    refine V_callV (pc := 15) C (ct_X7_openingOf hT hl h) g842 g844 g31 g845 g33 ⟨by decide, by decide, pl_X7_openingOf⟩ (enc_ne63 (by decide)) (ct_obj hT rfl (by decide)) rfl ⟨by decide, by decide⟩ (rest := []) rfl (le8 rfl) dX7_mustStay_15 (fun v8 S7 h => ?_) (fun k9 S9 hk h => VX_out C htab hk (h.2 (by omega)))
    replace h := h.1 rfl
    refine V_st (st' := [Value.int v8]) rfl ?_
    refine V_iconst (pc := 18) C (v := (-1)) dX7_mustStay_18 rfl ?_
    refine V_icmp_eq (pc := 19) (tgt := 39) C dX7_mustStay_19 (by decide) h (fun h => ?_) (fun h => ?_)
    · refine V_iconst (pc := 39) C (v := 0) dX7_mustStay_39 rfl ?_
      exact V_zret (pc := 40) C hr (by decide) rfl h dX7_mustStay_40
    · refine V_aload_n (pc := 22) C dX7_mustStay_22 rfl 1 rfl ?_
      refine V_aload_n (pc := 23) C dX7_mustStay_23 rfl 0 rfl ?_
      refine V_iload_n (pc := 24) C dX7_mustStay_24 rfl 3 rfl ?_
      refine V_callV (pc := 25) C (ct_X7_takenIn hT hl h) g838 g840 g30 g841 g33 ⟨by decide, by decide, pl_X7_takenIn⟩ (enc_ne63 (by decide)) (ct_obj hT rfl (by decide)) rfl ⟨by decide, by decide⟩ (rest := []) rfl (le8 rfl) dX7_mustStay_25 (fun v11 S10 h => ?_) (fun k9 S9 hk h => VX_out C htab hk (h.2 (by omega)))
      replace h := h.1 rfl
      refine V_st (st' := [Value.int v11]) rfl ?_
      refine V_aload_n (pc := 28) C dX7_mustStay_28 rfl 0 rfl ?_
      refine V_getI (pc := 29) C hT f1_X0_8 g376 dX7_mustStay_29 ?_
      refine V_icmp_lt (pc := 32) (tgt := 39) C dX7_mustStay_32 (by decide) h (fun h => ?_) (fun h => ?_)
      · refine V_iconst (pc := 39) C (v := 0) dX7_mustStay_39 rfl ?_
        exact V_zret (pc := 40) C hr (by decide) rfl h dX7_mustStay_40
      · refine V_iconst (pc := 35) C (v := 1) dX7_mustStay_35 rfl ?_
        refine V_goto (pc := 36) (tgt := 40) C dX7_mustStay_36 (by decide) ?_
        exact V_zret (pc := 40) C hr (by decide) rfl h dX7_mustStay_40
theorem pl_X7_paidFor : (parseMethodDescriptor yX7_paidFor.desc).map (fun d => d.parameters.length) = some 2 := by decide +kernel
def w_X7_paidFor_9  (Q : Nat → Int32 → Sg → Prop) : Nat → Int32 → Int32 → Int32 → Sg → Prop
  | 0, _, _, _, _ => False
  | n + 1, x2, x3, x4, S => ((x2 < x4 → Q 0 x3 S) ∧ (¬ x2 < x4 → (w_size 5 S (fun k3 v2 S1 => (k3 = 0 → ((v2 ≤ x4 → Q 0 x3 S1) ∧ (¬ v2 ≤ x4 → (w_get 5 x4 S1 (fun k6 v5 S4 => (k6 = 0 → (∀ v7, v7 = x3 + (S4.1 73 (nt v5)) → w_X7_paidFor_9  Q n x2 v7 (x4 + 1) S4)) ∧ (¬ k6 = 0 → Q k6 0 S4)))))) ∧ (¬ k3 = 0 → Q k3 0 S1)))))
theorem k_X7_paidFor_9 (hT : xT X = tb1) (hl : l.stackTraces = false) (C : Cn X k0 p l R s m meth c cX7_paidFor RX7 5 4 81) (hr : meth.sig.returnType = (some .int)) (hnm : meth.name = yX7_paidFor.name) (htab : ∀ x ∈ c.exceptionTable.toList, False)  : ∀ n {x2 : Int32} {x3 : Int32} {x4 : Int32} {S : Sg}, w_X7_paidFor_9  Qa n x2 x3 x4 S → V X p l e R s m args below meth c 5 (QM X below args s S0 ad0 rvI Qa) S0 ad0 S 9 [(0, Value.ref (enc 0 0)), (2, Value.int x2), (3, Value.int x3), (4, Value.int x4)] [] := by
  intro n
  induction n with
  | zero => intro x2 x3 x4 S h; exact h.elim
  | succ n ih =>
    intro x2 x3 x4 S h
    refine V_iload (pc := 9) C dX7_paidFor_9 3 rfl ?_
    refine V_iload_n (pc := 11) C dX7_paidFor_11 rfl 1 rfl ?_
    refine V_icmp_gt (pc := 12) (tgt := 51) C dX7_paidFor_12 (by decide) h (fun h => ?_) (fun h => ?_)
    · refine V_iload_n (pc := 51) C dX7_paidFor_51 rfl 2 rfl ?_
      exact V_iret (pc := 52) C hr rfl h dX7_paidFor_52
    · refine V_iload (pc := 15) C dX7_paidFor_15 3 rfl ?_
      refine V_aload_n (pc := 17) C dX7_paidFor_17 rfl 0 rfl ?_
      refine V_getF (pc := 18) C hT f1_X7_5 g95 dX7_paidFor_18 ?_
      refine V_callV (pc := 21) C (ct_size hT hl h) g200 g201 g202 g203 g36 ⟨by decide, by decide, pl_Jx4a65c_size_8abf5⟩ (enc_ne63 (by decide)) (ct_obj hT rfl (by decide)) rfl ⟨by decide, by decide⟩ (rest := [Value.int x4]) rfl (le8 rfl) dX7_paidFor_21 (fun v2 S1 h => ?_) (fun k9 S9 hk h => VX_out C htab hk (h.2 (by omega)))
      replace h := h.1 rfl
      refine V_st (st' := [Value.int v2, Value.int x4]) rfl ?_
      refine V_icmp_ge (pc := 24) (tgt := 51) C dX7_paidFor_24 (by decide) h (fun h => ?_) (fun h => ?_)
      · refine V_iload_n (pc := 51) C dX7_paidFor_51 rfl 2 rfl ?_
        exact V_iret (pc := 52) C hr rfl h dX7_paidFor_52
      · refine V_iload_n (pc := 27) C dX7_paidFor_27 rfl 2 rfl ?_
        refine V_aload_n (pc := 28) C dX7_paidFor_28 rfl 0 rfl ?_
        refine V_getF (pc := 29) C hT f1_X7_5 g95 dX7_paidFor_29 ?_
        refine V_iload (pc := 32) C dX7_paidFor_32 3 rfl ?_
        refine V_callV (pc := 34) C (ct_get hT hl (by decide) h) g332 g333 g334 g335 g36 ⟨by decide, by decide, pl_Jx4a65c_get_915e3⟩ (enc_ne63 (by decide)) (ct_obj hT rfl (by decide)) rfl ⟨by decide, by decide⟩ (rest := [Value.int x3]) rfl (le8 rfl) dX7_paidFor_34 (fun v5 S4 h => ?_) (fun k9 S9 hk h => VX_out C htab hk (h.2 (by omega)))
        replace h := h.1 rfl
        refine V_st (st' := [Value.ref (enc 8 (nt v5)), Value.int x3]) rfl ?_
        refine V_cast (pc := 37) C hT (by decide) rfl rfl g545 dX7_paidFor_37 ?_
        refine V_getI (pc := 40) C hT f1_X6_3 g613 dX7_paidFor_40 ?_
        refine V_iadd (pc := 43) C dX7_paidFor_43 ?_
        refine V_nI fun v7 e9 => ?_
        replace h := h v7 e9; clear e9
        refine V_istore_n (pc := 44) C dX7_paidFor_44 rfl (by decide) rfl ?_
        refine V_iinc (pc := 45) C (a := 3) (v := x4 + 1) dX7_paidFor_45 rfl rfl (by decide) rfl ?_
        refine V_goto (pc := 48) (tgt := 9) C dX7_paidFor_48 (by decide) ?_
        refine V_sub [2, 3, 1, 0] rfl ?_
        exact ih h
def w_X7_paidFor (a1 : Int32) (a2 : Int32) (S : Sg) (Q : Nat → Int32 → Sg → Prop) : Prop := (w_J9_max_7cf53 a1 0 S (fun k10 v9 S8 => (k10 = 0 → ∃ n9, w_X7_paidFor_9  Q n9 a2 0 v9 S8) ∧ (¬ k10 = 0 → Q k10 0 S8)))
theorem ct_X7_paidFor (hT : xT X = tb1) (hl : l.stackTraces = false) {a1 : Int32} {a2 : Int32} {S : Sg} (h : w_X7_paidFor a1 a2 S Qa) : CT X k0 l yX7_paidFor cX7_paidFor 5 (some .int) 4 81 [Value.ref (enc 0 0), Value.int a1, Value.int a2] rvI S Qa :=
  CT_ofV (own := RX7) (by decide +kernel) (le8 rfl) rfl hl fun p e R s m args below meth c ad0 C hr hnm htab => by
    refine V_iconst (pc := 0) C (v := 0) dX7_paidFor_0 rfl ?_
    refine V_istore_n (pc := 1) C dX7_paidFor_1 rfl (by decide) rfl ?_
    refine V_iload_n (pc := 2) C dX7_paidFor_2 rfl 2 rfl ?_
    refine V_iconst (pc := 3) C (v := 0) dX7_paidFor_3 rfl ?_
    refine V_callS (pc := 4) C (ct_J9_max_7cf53 hT hl h) g778 g269 g270 g44 ⟨by decide, by decide, pl_J9_max_7cf53⟩ ⟨by decide, by decide⟩ (rest := []) rfl (le8 rfl) dX7_paidFor_4 (fun v9 S8 h => ?_) (fun k9 S9 hk h => VX_out C htab hk (h.2 (by omega)))
    replace h := h.1 rfl
    refine V_st (st' := [Value.int v9]) rfl ?_
    refine V_istore (pc := 7) C dX7_paidFor_7 (by decide) rfl ?_
    refine V_sub [2, 4, 1, 0] rfl ?_
    obtain ⟨n9, h⟩ := h
    exact k_X7_paidFor_9 hT hl C hr hnm htab  n9 h
theorem pl_X7_audit : (parseMethodDescriptor yX7_audit.desc).map (fun d => d.parameters.length) = some 2 := by decide +kernel
def w_X7_audit (a1 : Int32) (a2 : Int32) (S : Sg) (Q : Nat → Int32 → Sg → Prop) : Prop := (w_X7_needTicket a1 S (fun k3 v2 S1 => (k3 = 0 → (w_X7_needTicket a2 S1 (fun k6 v5 S4 => (k6 = 0 → ((a1 ≤ a2 → (w_X7_paidFor a1 a2 S4 (fun k9 v8 S7 => (k9 = 0 → Q 0 v8 S7) ∧ (¬ k9 = 0 → Q k9 0 S7)))) ∧ (¬ a1 ≤ a2 → (S4.2.1 + 1 ≤ nB1 ∧ S4.2.2 + 6 ≤ nB2 ∧ Q 1 0 (tS S4))))) ∧ (¬ k6 = 0 → Q k6 0 S4)))) ∧ (¬ k3 = 0 → Q k3 0 S1)))
theorem ct_X7_audit (hT : xT X = tb1) (hl : l.stackTraces = false) {a1 : Int32} {a2 : Int32} {S : Sg} (h : w_X7_audit a1 a2 S Qa) : CT X k0 l yX7_audit cX7_audit 3 (some .int) 7 105 [Value.ref (enc 0 0), Value.int a1, Value.int a2] rvI S Qa :=
  CT_ofV (own := RX7) (by decide +kernel) (le8 rfl) rfl hl fun p e R s m args below meth c ad0 C hr hnm htab => by
    refine V_aload_n (pc := 0) C dX7_audit_0 rfl 0 rfl ?_
    refine V_iload_n (pc := 1) C dX7_audit_1 rfl 1 rfl ?_
    refine V_callV (pc := 2) C (ct_X7_needTicket hT hl h) g728 g730 g25 g731 g33 ⟨by decide, by decide, pl_X7_needTicket⟩ (enc_ne63 (by decide)) (ct_obj hT rfl (by decide)) rfl ⟨by decide, by decide⟩ (rest := []) rfl (le8 rfl) dX7_audit_2 (fun v2 S1 h => ?_) (fun k9 S9 hk h => VX_out C htab hk (h.2 (by omega)))
    replace h := h.1 rfl
    refine V_st (st' := []) rfl ?_
    refine V_aload_n (pc := 5) C dX7_audit_5 rfl 0 rfl ?_
    refine V_iload_n (pc := 6) C dX7_audit_6 rfl 2 rfl ?_
    refine V_callV (pc := 7) C (ct_X7_needTicket hT hl h) g728 g730 g25 g731 g33 ⟨by decide, by decide, pl_X7_needTicket⟩ (enc_ne63 (by decide)) (ct_obj hT rfl (by decide)) rfl ⟨by decide, by decide⟩ (rest := []) rfl (le8 rfl) dX7_audit_7 (fun v5 S4 h => ?_) (fun k9 S9 hk h => VX_out C htab hk (h.2 (by omega)))
    replace h := h.1 rfl
    refine V_st (st' := []) rfl ?_
    refine V_iload_n (pc := 10) C dX7_audit_10 rfl 2 rfl ?_
    refine V_iload_n (pc := 11) C dX7_audit_11 rfl 1 rfl ?_
    refine V_icmp_ge (pc := 12) (tgt := 26) C dX7_audit_12 (by decide) h (fun h => ?_) (fun h => ?_)
    · refine V_aload_n (pc := 26) C dX7_audit_26 rfl 0 rfl ?_
      refine V_iload_n (pc := 27) C dX7_audit_27 rfl 1 rfl ?_
      refine V_iload_n (pc := 28) C dX7_audit_28 rfl 2 rfl ?_
      refine V_callV (pc := 29) C (ct_X7_paidFor hT hl h) g774 g776 g27 g777 g33 ⟨by decide, by decide, pl_X7_paidFor⟩ (enc_ne63 (by decide)) (ct_obj hT rfl (by decide)) rfl ⟨by decide, by decide⟩ (rest := []) rfl (le8 rfl) dX7_audit_29 (fun v8 S7 h => ?_) (fun k9 S9 hk h => VX_out C htab hk (h.2 (by omega)))
      replace h := h.1 rfl
      refine V_st (st' := [Value.int v8]) rfl ?_
      exact V_iret (pc := 32) C hr rfl h dX7_audit_32
    · exact V_throwW (pc := 15) C htab (k9 := 1) (by decide) at_RX7_1 str_RX7_334 ⟨by decide, le8 rfl⟩ dX7_audit_15 dX7_audit_18 dX7_audit_19 dX7_audit_22 dX7_audit_25 h
theorem pl_X7_countOpenHolds : (parseMethodDescriptor yX7_countOpenHolds.desc).map (fun d => d.parameters.length) = some 0 := by decide +kernel
def w_X7_countOpenHolds_35 (k4 : Int32 → Int32 → Sg → Prop) (Q : Nat → Int32 → Sg → Prop) (x1 : Int32) (x2 : Int32) (S : Sg) : Prop := k4 x1 (x2 + 1) S
theorem k_X7_countOpenHolds_35 (hT : xT X = tb1) (hl : l.stackTraces = false) (C : Cn X k0 p l R s m meth c cX7_countOpenHolds RX7 3 4 81) (hr : meth.sig.returnType = (some .int)) (hnm : meth.name = yX7_countOpenHolds.name) (htab : ∀ x ∈ c.exceptionTable.toList, False) {k4 : Int32 → Int32 → Sg → Prop} (hk4 : ∀ {x1 : Int32} {x2 : Int32} {S : Sg}, k4 x1 x2 S → V X p l e R s m args below meth c 3 (QM X below args s S0 ad0 rvI Qa) S0 ad0 S 4 [(0, Value.ref (enc 0 0)), (1, Value.int x1), (2, Value.int x2)] []) {x1 : Int32} {x2 : Int32} {S : Sg} (h : w_X7_countOpenHolds_35 k4 Qa x1 x2 S) : V X p l e R s m args below meth c 3 (QM X below args s S0 ad0 rvI Qa) S0 ad0 S 35 [(0, Value.ref (enc 0 0)), (1, Value.int x1), (2, Value.int x2)] [] := by
  refine V_iinc (pc := 35) C (a := 2) (v := x2 + 1) dX7_countOpenHolds_35 rfl rfl (by decide) rfl ?_
  refine V_goto (pc := 38) (tgt := 4) C dX7_countOpenHolds_38 (by decide) ?_
  refine V_sub [1, 2, 0] rfl ?_
  exact hk4 h
def w_X7_countOpenHolds_4  (Q : Nat → Int32 → Sg → Prop) : Nat → Int32 → Int32 → Sg → Prop
  | 0, _, _, _ => False
  | n + 1, x1, x2, S => (w_size 4 S (fun k3 v2 S1 => (k3 = 0 → ((v2 ≤ x2 → Q 0 x1 S1) ∧ (¬ v2 ≤ x2 → (w_get 4 x2 S1 (fun k6 v5 S4 => (k6 = 0 → (((S4.1 63 (nt v5)) = 0 → w_X7_countOpenHolds_35 (fun x1 x2 S => w_X7_countOpenHolds_4  Q n x1 x2 S) Q (x1 + 1) x2 S4) ∧ (¬ (S4.1 63 (nt v5)) = 0 → w_X7_countOpenHolds_35 (fun x1 x2 S => w_X7_countOpenHolds_4  Q n x1 x2 S) Q x1 x2 S4))) ∧ (¬ k6 = 0 → Q k6 0 S4)))))) ∧ (¬ k3 = 0 → Q k3 0 S1)))
theorem k_X7_countOpenHolds_4 (hT : xT X = tb1) (hl : l.stackTraces = false) (C : Cn X k0 p l R s m meth c cX7_countOpenHolds RX7 3 4 81) (hr : meth.sig.returnType = (some .int)) (hnm : meth.name = yX7_countOpenHolds.name) (htab : ∀ x ∈ c.exceptionTable.toList, False)  : ∀ n {x1 : Int32} {x2 : Int32} {S : Sg}, w_X7_countOpenHolds_4  Qa n x1 x2 S → V X p l e R s m args below meth c 3 (QM X below args s S0 ad0 rvI Qa) S0 ad0 S 4 [(0, Value.ref (enc 0 0)), (1, Value.int x1), (2, Value.int x2)] [] := by
  intro n
  induction n with
  | zero => intro x1 x2 S h; exact h.elim
  | succ n ih =>
    intro x1 x2 S h
    refine V_iload_n (pc := 4) C dX7_countOpenHolds_4 rfl 2 rfl ?_
    refine V_aload_n (pc := 5) C dX7_countOpenHolds_5 rfl 0 rfl ?_
    refine V_getF (pc := 6) C hT f1_X7_4 g94 dX7_countOpenHolds_6 ?_
    refine V_callV (pc := 9) C (ct_size hT hl h) g200 g201 g202 g203 g36 ⟨by decide, by decide, pl_Jx4a65c_size_8abf5⟩ (enc_ne63 (by decide)) (ct_obj hT rfl (by decide)) rfl ⟨by decide, by decide⟩ (rest := [Value.int x2]) rfl (le8 rfl) dX7_countOpenHolds_9 (fun v2 S1 h => ?_) (fun k9 S9 hk h => VX_out C htab hk (h.2 (by omega)))
    replace h := h.1 rfl
    refine V_st (st' := [Value.int v2, Value.int x2]) rfl ?_
    refine V_icmp_ge (pc := 12) (tgt := 41) C dX7_countOpenHolds_12 (by decide) h (fun h => ?_) (fun h => ?_)
    · refine V_iload_n (pc := 41) C dX7_countOpenHolds_41 rfl 1 rfl ?_
      exact V_iret (pc := 42) C hr rfl h dX7_countOpenHolds_42
    · refine V_aload_n (pc := 15) C dX7_countOpenHolds_15 rfl 0 rfl ?_
      refine V_getF (pc := 16) C hT f1_X7_4 g94 dX7_countOpenHolds_16 ?_
      refine V_iload_n (pc := 19) C dX7_countOpenHolds_19 rfl 2 rfl ?_
      refine V_callV (pc := 20) C (ct_get hT hl (by decide) h) g332 g333 g334 g335 g36 ⟨by decide, by decide, pl_Jx4a65c_get_915e3⟩ (enc_ne63 (by decide)) (ct_obj hT rfl (by decide)) rfl ⟨by decide, by decide⟩ (rest := []) rfl (le8 rfl) dX7_countOpenHolds_20 (fun v5 S4 h => ?_) (fun k9 S9 hk h => VX_out C htab hk (h.2 (by omega)))
      replace h := h.1 rfl
      refine V_st (st' := [Value.ref (enc 7 (nt v5))]) rfl ?_
      refine V_cast (pc := 23) C hT (by decide) rfl rfl g550 dX7_countOpenHolds_23 ?_
      refine V_getI (pc := 26) C hT f1_X2_3 g661 dX7_countOpenHolds_26 ?_
      refine V_if_ne (pc := 29) (tgt := 35) C dX7_countOpenHolds_29 (by decide) h (fun h => ?_) (fun h => ?_)
      · refine V_sub [0, 1, 2] rfl ?_
        exact k_X7_countOpenHolds_35 hT hl C hr hnm htab (fun h => ih h) h
      · refine V_iinc (pc := 32) C (a := 1) (v := x1 + 1) dX7_countOpenHolds_32 rfl rfl (by decide) rfl ?_
        refine V_sub [1, 0, 2] rfl ?_
        exact k_X7_countOpenHolds_35 hT hl C hr hnm htab (fun h => ih h) h
def w_X7_countOpenHolds  (S : Sg) (Q : Nat → Int32 → Sg → Prop) : Prop := ∃ n9, w_X7_countOpenHolds_4  Q n9 0 0 S
theorem ct_X7_countOpenHolds (hT : xT X = tb1) (hl : l.stackTraces = false)  {S : Sg} (h : w_X7_countOpenHolds  S Qa) : CT X k0 l yX7_countOpenHolds cX7_countOpenHolds 3 (some .int) 4 81 [Value.ref (enc 0 0)] rvI S Qa :=
  CT_ofV (own := RX7) (by decide +kernel) (le8 rfl) rfl hl fun p e R s m args below meth c ad0 C hr hnm htab => by
    refine V_iconst (pc := 0) C (v := 0) dX7_countOpenHolds_0 rfl ?_
    refine V_istore_n (pc := 1) C dX7_countOpenHolds_1 rfl (by decide) rfl ?_
    refine V_iconst (pc := 2) C (v := 0) dX7_countOpenHolds_2 rfl ?_
    refine V_istore_n (pc := 3) C dX7_countOpenHolds_3 rfl (by decide) rfl ?_
    refine V_sub [2, 1, 0] rfl ?_
    obtain ⟨n9, h⟩ := h
    exact k_X7_countOpenHolds_4 hT hl C hr hnm htab  n9 h
theorem pl_X7_all : (parseMethodDescriptor yX7_all.desc).map (fun d => d.parameters.length) = some 1 := by decide +kernel
def w_X7_all (a1 : Int32) (S : Sg) (Q : Nat → Int32 → Sg → Prop) : Prop := ((a1 = 0 → Q 0 (S.1 6 0) S) ∧ (¬ a1 = 0 → ((a1 = 1 → (w_size 3 S (fun k3 v2 S1 => (k3 = 0 → Q 0 v2 S1) ∧ (¬ k3 = 0 → Q k3 0 S1)))) ∧ (¬ a1 = 1 → ((a1 = 2 → (w_size 5 S (fun k6 v5 S4 => (k6 = 0 → Q 0 v5 S4) ∧ (¬ k6 = 0 → Q k6 0 S4)))) ∧ (¬ a1 = 2 → ((a1 = 3 → (w_X7_countOpenHolds  S (fun k9 v8 S7 => (k9 = 0 → Q 0 v8 S7) ∧ (¬ k9 = 0 → Q k9 0 S7)))) ∧ (¬ a1 = 3 → ((a1 = 4 → (w_size 5 S (fun k12 v11 S10 => (k12 = 0 → (w_X7_paidFor 0 (v11 - 1) S10 (fun k15 v14 S13 => (k15 = 0 → Q 0 v14 S13) ∧ (¬ k15 = 0 → Q k15 0 S13)))) ∧ (¬ k12 = 0 → Q k12 0 S10)))) ∧ (¬ a1 = 4 → (S.2.1 + 1 ≤ nB1 ∧ S.2.2 + 6 ≤ nB2 ∧ Q 3 0 (tS S))))))))))))
theorem ct_X7_all (hT : xT X = tb1) (hl : l.stackTraces = false) {a1 : Int32} {S : Sg} (h : w_X7_all a1 S Qa) : CT X k0 l yX7_all cX7_all 2 (some .int) 6 105 [Value.ref (enc 0 0), Value.int a1] rvI S Qa :=
  CT_ofV (own := RX7) (by decide +kernel) (le8 rfl) rfl hl fun p e R s m args below meth c ad0 C hr hnm htab => by
    refine V_iload_n (pc := 0) C dX7_all_0 rfl 1 rfl ?_
    refine V_case h (fun e9 h2 => ?_) (fun e100 h2 => ?_)
    · clear h
      subst e9
      replace h := h2; clear h2
      refine V_tableIn (pc := 1) (tgt := 36) C dX7_all_1 (by decide) (by decide) rfl (by decide) ?_
      refine V_aload_n (pc := 36) C dX7_all_36 rfl 0 rfl ?_
      refine V_getI (pc := 37) C hT f1_X7_6 g96 dX7_all_37 ?_
      exact V_iret (pc := 40) C hr rfl h dX7_all_40
    replace h := h2; clear h2
    refine V_case h (fun e9 h2 => ?_) (fun e101 h2 => ?_)
    · clear h
      subst e9
      replace h := h2; clear h2
      refine V_tableIn (pc := 1) (tgt := 41) C dX7_all_1 (by decide) (by decide) rfl (by decide) ?_
      refine V_aload_n (pc := 41) C dX7_all_41 rfl 0 rfl ?_
      refine V_getF (pc := 42) C hT f1_X7_3 g93 dX7_all_42 ?_
      refine V_callV (pc := 45) C (ct_size hT hl h) g200 g201 g202 g203 g36 ⟨by decide, by decide, pl_Jx4a65c_size_8abf5⟩ (enc_ne63 (by decide)) (ct_obj hT rfl (by decide)) rfl ⟨by decide, by decide⟩ (rest := []) rfl (le8 rfl) dX7_all_45 (fun v2 S1 h => ?_) (fun k9 S9 hk h => VX_out C htab hk (h.2 (by omega)))
      replace h := h.1 rfl
      refine V_st (st' := [Value.int v2]) rfl ?_
      exact V_iret (pc := 48) C hr rfl h dX7_all_48
    replace h := h2; clear h2
    refine V_case h (fun e9 h2 => ?_) (fun e102 h2 => ?_)
    · clear h
      subst e9
      replace h := h2; clear h2
      refine V_tableIn (pc := 1) (tgt := 49) C dX7_all_1 (by decide) (by decide) rfl (by decide) ?_
      refine V_aload_n (pc := 49) C dX7_all_49 rfl 0 rfl ?_
      refine V_getF (pc := 50) C hT f1_X7_5 g95 dX7_all_50 ?_
      refine V_callV (pc := 53) C (ct_size hT hl h) g200 g201 g202 g203 g36 ⟨by decide, by decide, pl_Jx4a65c_size_8abf5⟩ (enc_ne63 (by decide)) (ct_obj hT rfl (by decide)) rfl ⟨by decide, by decide⟩ (rest := []) rfl (le8 rfl) dX7_all_53 (fun v5 S4 h => ?_) (fun k9 S9 hk h => VX_out C htab hk (h.2 (by omega)))
      replace h := h.1 rfl
      refine V_st (st' := [Value.int v5]) rfl ?_
      exact V_iret (pc := 56) C hr rfl h dX7_all_56
    replace h := h2; clear h2
    refine V_case h (fun e9 h2 => ?_) (fun e103 h2 => ?_)
    · clear h
      subst e9
      replace h := h2; clear h2
      refine V_tableIn (pc := 1) (tgt := 57) C dX7_all_1 (by decide) (by decide) rfl (by decide) ?_
      refine V_aload_n (pc := 57) C dX7_all_57 rfl 0 rfl ?_
      refine V_callV (pc := 58) C (ct_X7_countOpenHolds hT hl h) g789 g791 g28 g792 g33 ⟨by decide, by decide, pl_X7_countOpenHolds⟩ (enc_ne63 (by decide)) (ct_obj hT rfl (by decide)) rfl ⟨by decide, by decide⟩ (rest := []) rfl (le8 rfl) dX7_all_58 (fun v8 S7 h => ?_) (fun k9 S9 hk h => VX_out C htab hk (h.2 (by omega)))
      replace h := h.1 rfl
      refine V_st (st' := [Value.int v8]) rfl ?_
      exact V_iret (pc := 61) C hr rfl h dX7_all_61
    replace h := h2; clear h2
    refine V_case h (fun e9 h2 => ?_) (fun e104 h2 => ?_)
    · clear h
      subst e9
      replace h := h2; clear h2
      refine V_tableIn (pc := 1) (tgt := 62) C dX7_all_1 (by decide) (by decide) rfl (by decide) ?_
      refine V_aload_n (pc := 62) C dX7_all_62 rfl 0 rfl ?_
      refine V_iconst (pc := 63) C (v := 0) dX7_all_63 rfl ?_
      refine V_aload_n (pc := 64) C dX7_all_64 rfl 0 rfl ?_
      refine V_getF (pc := 65) C hT f1_X7_5 g95 dX7_all_65 ?_
      refine V_callV (pc := 68) C (ct_size hT hl h) g200 g201 g202 g203 g36 ⟨by decide, by decide, pl_Jx4a65c_size_8abf5⟩ (enc_ne63 (by decide)) (ct_obj hT rfl (by decide)) rfl ⟨by decide, by decide⟩ (rest := [Value.int 0, Value.ref (enc 0 0)]) rfl (le8 rfl) dX7_all_68 (fun v11 S10 h => ?_) (fun k9 S9 hk h => VX_out C htab hk (h.2 (by omega)))
      replace h := h.1 rfl
      refine V_st (st' := [Value.int v11, Value.int 0, Value.ref (enc 0 0)]) rfl ?_
      refine V_iconst (pc := 71) C (v := 1) dX7_all_71 rfl ?_
      refine V_isub (pc := 72) C dX7_all_72 ?_
      refine V_callV (pc := 73) C (ct_X7_paidFor hT hl h) g774 g776 g27 g777 g33 ⟨by decide, by decide, pl_X7_paidFor⟩ (enc_ne63 (by decide)) (ct_obj hT rfl (by decide)) rfl ⟨by decide, by decide⟩ (rest := []) rfl (le8 rfl) dX7_all_73 (fun v14 S13 h => ?_) (fun k9 S9 hk h => VX_out C htab hk (h.2 (by omega)))
      replace h := h.1 rfl
      refine V_st (st' := [Value.int v14]) rfl ?_
      exact V_iret (pc := 76) C hr rfl h dX7_all_76
    replace h := h2; clear h2
    refine V_tableOut (pc := 1) (tgt := 77) C dX7_all_1 (tbl_out (n := 4) (by decide) (fun k hk => ?_)) (by decide) ?_
    · have hk2 : k = 0 ∨ k = 1 ∨ k = 2 ∨ k = 3 ∨ k = 4 := by omega
      rcases hk2 with rfl | rfl | rfl | rfl | rfl <;> assumption
    exact V_throwW (pc := 77) C htab (k9 := 3) (by decide) at_RX7_3 str_RX7_293 ⟨by decide, le8 rfl⟩ dX7_all_77 dX7_all_80 dX7_all_81 dX7_all_84 dX7_all_87 h
end KB
