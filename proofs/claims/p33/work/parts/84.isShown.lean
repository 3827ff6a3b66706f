section LB84
variable {X : Cx} {p : Program} {l : Launch} {e : Env} {R : Room} {s : State} {m : MethodId} {args : Array Value} {below : List Frame} {meth : Method} {c : Code} {S0 : Sg} {ad0 : Nat → Nat} {Qa : Nat → Int32 → Sg → Prop}
theorem pl_L_isShown : (parseMethodDescriptor yL_isShown.desc).map (fun d => d.parameters.length) = some 13 := by decide +kernel
def w_L_isShown_709  (Q : Nat → Int32 → Sg → Prop) (y0 : Int32) (y1 : Int32) (S : Sg) : Prop := ((y1 = y0 → Q 0 1 S) ∧ (¬ y1 = y0 → Q 0 0 S))
theorem k_L_isShown_709 (hT : xT X = tb1) (hl : l.stackTraces = false) (C : Cn X k0 p l R s m meth c cL_isShown RL 22 14 321) (hr : meth.sig.returnType = (some .boolean)) (hnm : meth.name = yL_isShown.name) (htab : (∀ x ∈ c.exceptionTable.toList, False))  {y0 : Int32} {y1 : Int32} {S : Sg} (h : w_L_isShown_709  Qa y0 y1 S) : V X p l e R s m args below meth c 22 (QM X below args s S0 ad0 rvI Qa) S0 ad0 S 709 [] [Value.int y0, Value.int y1] := by
  refine V_icmp_ne (pc := 709) (tgt := 716) C dL_isShown_709 (by decide) h (fun h => ?_) (fun h => ?_)
  · refine V_iconst (pc := 716) C (v := 0) dL_isShown_716 rfl ?_
    exact V_zret (pc := 717) C hr (by decide) rfl h dL_isShown_717
  · refine V_iconst (pc := 712) C (v := 1) dL_isShown_712 rfl ?_
    refine V_goto (pc := 713) (tgt := 717) C dL_isShown_713 (by decide) ?_
    exact V_zret (pc := 717) C hr (by decide) rfl h dL_isShown_717
def w_L_isShown_683  (Q : Nat → Int32 → Sg → Prop) (x16 : Int32) (x17 : Int32) (S : Sg) : Prop := (w_L_does 8 x16 0 0 0 0 S (fun k3 v2 S1 => (k3 = 0 → ((x17 = 0 → w_L_isShown_709  Q (-2000000) v2 S1) ∧ (¬ x17 = 0 → (vp_in 0 8 ∧ w_L_isShown_709  Q (S1.1 112 (nt 0)) v2 S1)))) ∧ (¬ k3 = 0 → Q k3 0 S1)))
theorem k_L_isShown_683 (hT : xT X = tb1) (hl : l.stackTraces = false) (C : Cn X k0 p l R s m meth c cL_isShown RL 22 14 321) (hr : meth.sig.returnType = (some .boolean)) (hnm : meth.name = yL_isShown.name) (htab : (∀ x ∈ c.exceptionTable.toList, False))  {x16 : Int32} {x17 : Int32} {S : Sg} (h : w_L_isShown_683  Qa x16 x17 S) : V X p l e R s m args below meth c 22 (QM X below args s S0 ad0 rvI Qa) S0 ad0 S 683 [(0, Value.ref (enc 0 0)), (9, Value.ref (enc 13 12)), (16, Value.int x16), (17, Value.int x17)] [] := by
  refine V_aload_n (pc := 683) C dL_isShown_683 rfl 0 rfl ?_
  refine V_bipush (pc := 684) C (v := 8) dL_isShown_684 rfl ?_
  refine V_iload (pc := 686) C dL_isShown_686 2 rfl ?_
  refine V_iconst (pc := 688) C (v := 0) dL_isShown_688 rfl ?_
  refine V_iconst (pc := 689) C (v := 0) dL_isShown_689 rfl ?_
  refine V_iconst (pc := 690) C (v := 0) dL_isShown_690 rfl ?_
  refine V_iconst (pc := 691) C (v := 0) dL_isShown_691 rfl ?_
  refine V_callH (pc := 692) C (ct_L_does hT hl h) g119 g120 g121 g32 ⟨by decide, by decide, pl_L_does⟩ ⟨by decide, by decide⟩ (rest := []) rfl (le8 rfl) dL_isShown_692 (fun v2 S1 h => ?_) (fun k9 S9 hk h => VX_out C htab hk (h.2 (by omega)))
  replace h := h.1 rfl
  refine V_st (st' := [Value.int v2]) rfl ?_
  refine V_iload (pc := 695) C dL_isShown_695 3 rfl ?_
  refine V_if_eq (pc := 697) (tgt := 707) C dL_isShown_697 (by decide) h (fun h => ?_) (fun h => ?_)
  · refine V_ldc (pc := 707) C g780 dL_isShown_707 ?_
    refine V_sub [] rfl ?_
    exact k_L_isShown_709 hT hl C hr hnm htab  h
  · refine V_aload (pc := 700) C dL_isShown_700 1 rfl ?_
    refine V_iconst (pc := 702) C (v := 0) dL_isShown_702 rfl ?_
    refine V_mld (pc := 703) C hT tb1_arr (n := 8) (c9 := 112) rfl rfl rfl h dL_isShown_703 (fun h => ?_)
    refine V_goto (pc := 704) (tgt := 709) C dL_isShown_704 (by decide) ?_
    refine V_sub [] rfl ?_
    exact k_L_isShown_709 hT hl C hr hnm htab  h
def w_L_isShown_647  (Q : Nat → Int32 → Sg → Prop) : Nat → Int32 → Int32 → Int32 → Sg → Prop
  | 0, _, _, _, _ => False
  | n + 1, x16, x17, x18, S => ((x16 ≤ x18 → w_L_isShown_683  Q x16 x17 S) ∧ (¬ x16 ≤ x18 → ((x17 = 0 → w_L_isShown_683  Q x16 x17 S) ∧ (¬ x17 = 0 → (w_L_minute  S (fun k6 v5 S4 => (k6 = 0 → w_L_isShown_647  Q n x16 x17 (x18 + 1) S4) ∧ (¬ k6 = 0 → Q k6 0 S4)))))))
theorem k_L_isShown_647 (hT : xT X = tb1) (hl : l.stackTraces = false) (C : Cn X k0 p l R s m meth c cL_isShown RL 22 14 321) (hr : meth.sig.returnType = (some .boolean)) (hnm : meth.name = yL_isShown.name) (htab : (∀ x ∈ c.exceptionTable.toList, False))  : ∀ n {x16 : Int32} {x17 : Int32} {x18 : Int32} {S : Sg}, w_L_isShown_647  Qa n x16 x17 x18 S → V X p l e R s m args below meth c 22 (QM X below args s S0 ad0 rvI Qa) S0 ad0 S 647 [(0, Value.ref (enc 0 0)), (1, Value.ref (enc 13 3)), (2, Value.ref (enc 13 4)), (3, Value.ref (enc 13 6)), (4, Value.ref (enc 13 7)), (5, Value.ref (enc 13 8)), (6, Value.ref (enc 13 9)), (7, Value.ref (enc 13 10)), (8, Value.ref (enc 13 11)), (9, Value.ref (enc 13 12)), (16, Value.int x16), (17, Value.int x17), (18, Value.int x18)] [] := by
  intro n
  induction n with
  | zero => intro x16 x17 x18 S h; exact h.elim
  | succ n ih =>
    intro x16 x17 x18 S h
    refine V_iload (pc := 647) C dL_isShown_647 12 rfl ?_
    refine V_iload (pc := 649) C dL_isShown_649 10 rfl ?_
    refine V_icmp_ge (pc := 651) (tgt := 683) C dL_isShown_651 (by decide) h (fun h => ?_) (fun h => ?_)
    · refine V_sub [0, 9, 10, 11] rfl ?_
      exact k_L_isShown_683 hT hl C hr hnm htab  h
    · refine V_iload (pc := 654) C dL_isShown_654 11 rfl ?_
      refine V_if_eq (pc := 656) (tgt := 683) C dL_isShown_656 (by decide) h (fun h => ?_) (fun h => ?_)
      · refine V_sub [0, 9, 10, 11] rfl ?_
        exact k_L_isShown_683 hT hl C hr hnm htab  h
      · refine V_aload_n (pc := 659) C dL_isShown_659 rfl 1 rfl ?_
        refine V_aload_n (pc := 660) C dL_isShown_660 rfl 2 rfl ?_
        refine V_aload_n (pc := 661) C dL_isShown_661 rfl 3 rfl ?_
        refine V_aload (pc := 662) C dL_isShown_662 4 rfl ?_
        refine V_aload (pc := 664) C dL_isShown_664 5 rfl ?_
        refine V_aload (pc := 666) C dL_isShown_666 6 rfl ?_
        refine V_aload (pc := 668) C dL_isShown_668 7 rfl ?_
        refine V_aload (pc := 670) C dL_isShown_670 8 rfl ?_
        refine V_aload (pc := 672) C dL_isShown_672 9 rfl ?_
        refine V_callS (pc := 674) C (ct_L_minute hT hl h) g902 g903 g904 g32 ⟨by decide, by decide, pl_L_minute⟩ ⟨by decide, by decide⟩ (rest := []) rfl (le8 rfl) dL_isShown_674 (fun v5 S4 h => ?_) (fun k9 S9 hk h => VX_out C htab hk (h.2 (by omega)))
        replace h := h.1 rfl
        refine V_st (st' := []) rfl ?_
        refine V_iinc (pc := 677) C (a := 12) (v := x18 + 1) dL_isShown_677 rfl rfl (by decide) rfl ?_
        refine V_goto (pc := 680) (tgt := 647) C dL_isShown_680 (by decide) ?_
        refine V_sub [1, 2, 3, 4, 5, 6, 7, 8, 9, 10, 11, 12, 0] rfl ?_
        exact ih h
def w_L_isShown_642  (Q : Nat → Int32 → Sg → Prop) (x16 : Int32) (y0 : Int32) (S : Sg) : Prop := ∃ n9, w_L_isShown_647  Q n9 x16 y0 0 S
theorem k_L_isShown_642 (hT : xT X = tb1) (hl : l.stackTraces = false) (C : Cn X k0 p l R s m meth c cL_isShown RL 22 14 321) (hr : meth.sig.returnType = (some .boolean)) (hnm : meth.name = yL_isShown.name) (htab : (∀ x ∈ c.exceptionTable.toList, False))  {x16 : Int32} {y0 : Int32} {S : Sg} (h : w_L_isShown_642  Qa x16 y0 S) : V X p l e R s m args below meth c 22 (QM X below args s S0 ad0 rvI Qa) S0 ad0 S 642 [(0, Value.ref (enc 0 0)), (1, Value.ref (enc 13 3)), (2, Value.ref (enc 13 4)), (3, Value.ref (enc 13 6)), (4, Value.ref (enc 13 7)), (5, Value.ref (enc 13 8)), (6, Value.ref (enc 13 9)), (7, Value.ref (enc 13 10)), (8, Value.ref (enc 13 11)), (9, Value.ref (enc 13 12)), (16, Value.int x16)] [Value.int y0] := by
  refine V_istore (pc := 642) C dL_isShown_642 (by decide) rfl ?_
  refine V_iconst (pc := 644) C (v := 0) dL_isShown_644 rfl ?_
  refine V_istore (pc := 645) C dL_isShown_645 (by decide) rfl ?_
  refine V_sub [2, 3, 4, 5, 6, 7, 8, 9, 10, 11, 12, 1, 0] rfl ?_
  obtain ⟨n9, h⟩ := h
  exact k_L_isShown_647 hT hl C hr hnm htab  n9 h
def w_L_isShown_641  (Q : Nat → Int32 → Sg → Prop) (x16 : Int32) (S : Sg) : Prop := w_L_isShown_642  Q x16 0 S
theorem k_L_isShown_641 (hT : xT X = tb1) (hl : l.stackTraces = false) (C : Cn X k0 p l R s m meth c cL_isShown RL 22 14 321) (hr : meth.sig.returnType = (some .boolean)) (hnm : meth.name = yL_isShown.name) (htab : (∀ x ∈ c.exceptionTable.toList, False))  {x16 : Int32} {S : Sg} (h : w_L_isShown_641  Qa x16 S) : V X p l e R s m args below meth c 22 (QM X below args s S0 ad0 rvI Qa) S0 ad0 S 641 [(0, Value.ref (enc 0 0)), (1, Value.ref (enc 13 3)), (2, Value.ref (enc 13 4)), (3, Value.ref (enc 13 6)), (4, Value.ref (enc 13 7)), (5, Value.ref (enc 13 8)), (6, Value.ref (enc 13 9)), (7, Value.ref (enc 13 10)), (8, Value.ref (enc 13 11)), (9, Value.ref (enc 13 12)), (16, Value.int x16)] [] := by
  refine V_iconst (pc := 641) C (v := 0) dL_isShown_641 rfl ?_
  refine V_sub [0, 1, 2, 3, 4, 5, 6, 7, 8, 9, 10] rfl ?_
  exact k_L_isShown_642 hT hl C hr hnm htab  h
def w_L_isShown_622  (Q : Nat → Int32 → Sg → Prop) (y0 : Int32) (S : Sg) : Prop := ((y0 ≤ 0 → w_L_isShown_641  Q y0 S) ∧ (¬ y0 ≤ 0 → ((5001 ≤ y0 → w_L_isShown_641  Q y0 S) ∧ (¬ 5001 ≤ y0 → w_L_isShown_642  Q y0 1 S))))
theorem k_L_isShown_622 (hT : xT X = tb1) (hl : l.stackTraces = false) (C : Cn X k0 p l R s m meth c cL_isShown RL 22 14 321) (hr : meth.sig.returnType = (some .boolean)) (hnm : meth.name = yL_isShown.name) (htab : (∀ x ∈ c.exceptionTable.toList, False))  {y0 : Int32} {S : Sg} (h : w_L_isShown_622  Qa y0 S) : V X p l e R s m args below meth c 22 (QM X below args s S0 ad0 rvI Qa) S0 ad0 S 622 [(0, Value.ref (enc 0 0)), (1, Value.ref (enc 13 3)), (2, Value.ref (enc 13 4)), (3, Value.ref (enc 13 6)), (4, Value.ref (enc 13 7)), (5, Value.ref (enc 13 8)), (6, Value.ref (enc 13 9)), (7, Value.ref (enc 13 10)), (8, Value.ref (enc 13 11)), (9, Value.ref (enc 13 12))] [Value.int y0] := by
  refine V_istore (pc := 622) C dL_isShown_622 (by decide) rfl ?_
  refine V_iload (pc := 624) C dL_isShown_624 0 rfl ?_
  refine V_if_le (pc := 626) (tgt := 641) C dL_isShown_626 (by decide) h (fun h => ?_) (fun h => ?_)
  · refine V_sub [1, 2, 3, 4, 5, 6, 7, 8, 9, 10, 0] rfl ?_
    exact k_L_isShown_641 hT hl C hr hnm htab  h
  · refine V_iload (pc := 629) C dL_isShown_629 0 rfl ?_
    refine V_sipush (pc := 631) C (v := 5001) dL_isShown_631 rfl ?_
    refine V_icmp_ge (pc := 634) (tgt := 641) C dL_isShown_634 (by decide) h (fun h => ?_) (fun h => ?_)
    · refine V_sub [1, 2, 3, 4, 5, 6, 7, 8, 9, 10, 0] rfl ?_
      exact k_L_isShown_641 hT hl C hr hnm htab  h
    · refine V_iconst (pc := 637) C (v := 1) dL_isShown_637 rfl ?_
      refine V_goto (pc := 638) (tgt := 642) C dL_isShown_638 (by decide) ?_
      refine V_sub [1, 2, 3, 4, 5, 6, 7, 8, 9, 10, 0] rfl ?_
      exact k_L_isShown_642 hT hl C hr hnm htab  h
def w_L_isShown_566  (Q : Nat → Int32 → Sg → Prop) (y0 : Int32) (y1 : Int32) (S : Sg) : Prop := ((y1 = y0 → Q 0 1 S) ∧ (¬ y1 = y0 → Q 0 0 S))
theorem k_L_isShown_566 (hT : xT X = tb1) (hl : l.stackTraces = false) (C : Cn X k0 p l R s m meth c cL_isShown RL 22 14 321) (hr : meth.sig.returnType = (some .boolean)) (hnm : meth.name = yL_isShown.name) (htab : (∀ x ∈ c.exceptionTable.toList, False))  {y0 : Int32} {y1 : Int32} {S : Sg} (h : w_L_isShown_566  Qa y0 y1 S) : V X p l e R s m args below meth c 22 (QM X below args s S0 ad0 rvI Qa) S0 ad0 S 566 [] [Value.int y0, Value.int y1] := by
  refine V_icmp_ne (pc := 566) (tgt := 573) C dL_isShown_566 (by decide) h (fun h => ?_) (fun h => ?_)
  · refine V_iconst (pc := 573) C (v := 0) dL_isShown_573 rfl ?_
    exact V_zret (pc := 574) C hr (by decide) rfl h dL_isShown_574
  · refine V_iconst (pc := 569) C (v := 1) dL_isShown_569 rfl ?_
    refine V_goto (pc := 570) (tgt := 574) C dL_isShown_570 (by decide) ?_
    exact V_zret (pc := 574) C hr (by decide) rfl h dL_isShown_574
def w_L_isShown_526  (Q : Nat → Int32 → Sg → Prop) (x13 : Int32) (x14 : Int32) (x16 : Int32) (x17 : Int32) (y0 : Int32) (S : Sg) : Prop := (vp_in y0 11 ∧ (vp_in y0 11 ∧ (∀ S7, S7 = su S 106 (nt y0) ((S.1 106 (nt y0)) + 32) → (w_L_does 7 x13 0 0 0 0 S7 (fun k10 v9 S8 => (k10 = 0 → ((x14 = 0 → w_L_isShown_566  Q (-3000000) v9 S8) ∧ (¬ x14 = 0 → ((x16 = 0 → w_L_isShown_566  Q (-1000000) v9 S8) ∧ (¬ x16 = 0 → w_L_isShown_566  Q x17 v9 S8))))) ∧ (¬ k10 = 0 → Q k10 0 S8))))))
theorem k_L_isShown_526 (hT : xT X = tb1) (hl : l.stackTraces = false) (C : Cn X k0 p l R s m meth c cL_isShown RL 22 14 321) (hr : meth.sig.returnType = (some .boolean)) (hnm : meth.name = yL_isShown.name) (htab : (∀ x ∈ c.exceptionTable.toList, False))  {x13 : Int32} {x14 : Int32} {x16 : Int32} {x17 : Int32} {y0 : Int32} {S : Sg} (h : w_L_isShown_526  Qa x13 x14 x16 x17 y0 S) : V X p l e R s m args below meth c 22 (QM X below args s S0 ad0 rvI Qa) S0 ad0 S 526 [(0, Value.ref (enc 0 0)), (13, Value.int x13), (14, Value.int x14), (16, Value.int x16), (17, Value.int x17)] [Value.int y0, Value.ref (enc 13 6)] := by
  refine V_dup2 (pc := 526) C dL_isShown_526 rfl rfl ?_
  refine V_mld (pc := 527) C hT tb1_arr (n := 11) (c9 := 106) rfl rfl rfl h dL_isShown_527 (fun h => ?_)
  refine V_bipush (pc := 528) C (v := 32) dL_isShown_528 rfl ?_
  refine V_iadd (pc := 530) C dL_isShown_530 ?_
  refine V_mst (pc := 531) C hT tb1_arr (n := 11) (c9 := 106) (by decide) rfl rfl rfl h dL_isShown_531 (fun h => V_nx fun S7 e9 => ?_)
  replace h := h S7 e9; clear e9
  refine V_aload_n (pc := 532) C dL_isShown_532 rfl 0 rfl ?_
  refine V_bipush (pc := 533) C (v := 7) dL_isShown_533 rfl ?_
  refine V_iload (pc := 535) C dL_isShown_535 1 rfl ?_
  refine V_iconst (pc := 537) C (v := 0) dL_isShown_537 rfl ?_
  refine V_iconst (pc := 538) C (v := 0) dL_isShown_538 rfl ?_
  refine V_iconst (pc := 539) C (v := 0) dL_isShown_539 rfl ?_
  refine V_iconst (pc := 540) C (v := 0) dL_isShown_540 rfl ?_
  refine V_callH (pc := 541) C (ct_L_does hT hl h) g119 g120 g121 g32 ⟨by decide, by decide, pl_L_does⟩ ⟨by decide, by decide⟩ (rest := []) rfl (le8 rfl) dL_isShown_541 (fun v9 S8 h => ?_) (fun k9 S9 hk h => VX_out C htab hk (h.2 (by omega)))
  replace h := h.1 rfl
  refine V_st (st' := [Value.int v9]) rfl ?_
  refine V_iload (pc := 544) C dL_isShown_544 2 rfl ?_
  refine V_if_ne (pc := 546) (tgt := 554) C dL_isShown_546 (by decide) h (fun h => ?_) (fun h => ?_)
  · refine V_iload (pc := 554) C dL_isShown_554 3 rfl ?_
    refine V_if_eq (pc := 556) (tgt := 564) C dL_isShown_556 (by decide) h (fun h => ?_) (fun h => ?_)
    · refine V_ldc (pc := 564) C g781 dL_isShown_564 ?_
      refine V_sub [] rfl ?_
      exact k_L_isShown_566 hT hl C hr hnm htab  h
    · refine V_iload (pc := 559) C dL_isShown_559 4 rfl ?_
      refine V_goto (pc := 561) (tgt := 566) C dL_isShown_561 (by decide) ?_
      refine V_sub [] rfl ?_
      exact k_L_isShown_566 hT hl C hr hnm htab  h
  · refine V_ldc (pc := 549) C g779 dL_isShown_549 ?_
    refine V_goto (pc := 551) (tgt := 566) C dL_isShown_551 (by decide) ?_
    refine V_sub [] rfl ?_
    exact k_L_isShown_566 hT hl C hr hnm htab  h
def w_L_isShown_507  (Q : Nat → Int32 → Sg → Prop) (x13 : Int32) (x14 : Int32) (x16 : Int32) (x17 : Int32) (x18 : Int32) (y0 : Int32) (S : Sg) : Prop := (vp_in y0 7 ∧ (vp_in y0 7 ∧ (∀ S11, S11 = su S 103 (nt y0) ((S.1 103 (nt y0)) + x18) → ((x16 = 0 → w_L_isShown_526  Q x13 x14 x16 x17 10 S11) ∧ (¬ x16 = 0 → w_L_isShown_526  Q x13 x14 x16 x17 x13 S11)))))
theorem k_L_isShown_507 (hT : xT X = tb1) (hl : l.stackTraces = false) (C : Cn X k0 p l R s m meth c cL_isShown RL 22 14 321) (hr : meth.sig.returnType = (some .boolean)) (hnm : meth.name = yL_isShown.name) (htab : (∀ x ∈ c.exceptionTable.toList, False))  {x13 : Int32} {x14 : Int32} {x16 : Int32} {x17 : Int32} {x18 : Int32} {y0 : Int32} {S : Sg} (h : w_L_isShown_507  Qa x13 x14 x16 x17 x18 y0 S) : V X p l e R s m args below meth c 22 (QM X below args s S0 ad0 rvI Qa) S0 ad0 S 507 [(0, Value.ref (enc 0 0)), (3, Value.ref (enc 13 6)), (13, Value.int x13), (14, Value.int x14), (16, Value.int x16), (17, Value.int x17), (18, Value.int x18)] [Value.int y0, Value.ref (enc 13 3)] := by
  refine V_dup2 (pc := 507) C dL_isShown_507 rfl rfl ?_
  refine V_mld (pc := 508) C hT tb1_arr (n := 7) (c9 := 103) rfl rfl rfl h dL_isShown_508 (fun h => ?_)
  refine V_iload (pc := 509) C dL_isShown_509 6 rfl ?_
  refine V_iadd (pc := 511) C dL_isShown_511 ?_
  refine V_mst (pc := 512) C hT tb1_arr (n := 7) (c9 := 103) (by decide) rfl rfl rfl h dL_isShown_512 (fun h => V_nx fun S11 e9 => ?_)
  replace h := h S11 e9; clear e9
  refine V_aload_n (pc := 513) C dL_isShown_513 rfl 1 rfl ?_
  refine V_iload (pc := 514) C dL_isShown_514 4 rfl ?_
  refine V_if_eq (pc := 516) (tgt := 524) C dL_isShown_516 (by decide) h (fun h => ?_) (fun h => ?_)
  · refine V_bipush (pc := 524) C (v := 10) dL_isShown_524 rfl ?_
    refine V_sub [0, 2, 3, 4, 5] rfl ?_
    exact k_L_isShown_526 hT hl C hr hnm htab  h
  · refine V_iload (pc := 519) C dL_isShown_519 2 rfl ?_
    refine V_goto (pc := 521) (tgt := 526) C dL_isShown_521 (by decide) ?_
    refine V_sub [0, 2, 3, 4, 5] rfl ?_
    exact k_L_isShown_526 hT hl C hr hnm htab  h
def w_L_isShown_486  (Q : Nat → Int32 → Sg → Prop) (x13 : Int32) (x14 : Int32) (x16 : Int32) (x17 : Int32) (x18 : Int32) (S : Sg) : Prop := ((x16 = 0 → w_L_isShown_507  Q x13 x14 x16 x17 x18 6 S) ∧ (¬ x16 = 0 → (vp_in x13 11 ∧ w_L_isShown_507  Q x13 x14 x16 x17 x18 (2 + (((S.1 106 (nt x13)) / 4) - ((S.1 106 (nt x13)) / 4) / 4 * 4)) S)))
theorem k_L_isShown_486 (hT : xT X = tb1) (hl : l.stackTraces = false) (C : Cn X k0 p l R s m meth c cL_isShown RL 22 14 321) (hr : meth.sig.returnType = (some .boolean)) (hnm : meth.name = yL_isShown.name) (htab : (∀ x ∈ c.exceptionTable.toList, False))  {x13 : Int32} {x14 : Int32} {x16 : Int32} {x17 : Int32} {x18 : Int32} {S : Sg} (h : w_L_isShown_486  Qa x13 x14 x16 x17 x18 S) : V X p l e R s m args below meth c 22 (QM X below args s S0 ad0 rvI Qa) S0 ad0 S 486 [(0, Value.ref (enc 0 0)), (1, Value.ref (enc 13 3)), (3, Value.ref (enc 13 6)), (13, Value.int x13), (14, Value.int x14), (16, Value.int x16), (17, Value.int x17), (18, Value.int x18)] [] := by
  refine V_aload_n (pc := 486) C dL_isShown_486 rfl 1 rfl ?_
  refine V_iload (pc := 487) C dL_isShown_487 5 rfl ?_
  refine V_if_eq (pc := 489) (tgt := 505) C dL_isShown_489 (by decide) h (fun h => ?_) (fun h => ?_)
  · refine V_bipush (pc := 505) C (v := 6) dL_isShown_505 rfl ?_
    refine V_sub [0, 2, 3, 4, 5, 6, 7] rfl ?_
    exact k_L_isShown_507 hT hl C hr hnm htab  h
  · refine V_iconst (pc := 492) C (v := 2) dL_isShown_492 rfl ?_
    refine V_aload_n (pc := 493) C dL_isShown_493 rfl 2 rfl ?_
    refine V_iload (pc := 494) C dL_isShown_494 3 rfl ?_
    refine V_mld (pc := 496) C hT tb1_arr (n := 11) (c9 := 106) rfl rfl rfl h dL_isShown_496 (fun h => ?_)
    refine V_iconst (pc := 497) C (v := 4) dL_isShown_497 rfl ?_
    refine V_idiv (pc := 498) C dL_isShown_498 (by decide) ?_
    refine V_iconst (pc := 499) C (v := 4) dL_isShown_499 rfl ?_
    refine V_irem (pc := 500) C dL_isShown_500 (by decide) ?_
    refine V_iadd (pc := 501) C dL_isShown_501 ?_
    refine V_goto (pc := 502) (tgt := 507) C dL_isShown_502 (by decide) ?_
    refine V_sub [0, 2, 3, 4, 5, 6, 7] rfl ?_
    exact k_L_isShown_507 hT hl C hr hnm htab  h
def w_L_isShown_461 (k371 : Int32 → Int32 → Int32 → Int32 → Int32 → Int32 → Sg → Prop) (Q : Nat → Int32 → Sg → Prop) (x13 : Int32) (x14 : Int32) (x16 : Int32) (x17 : Int32) (x18 : Int32) (x19 : Int32) (y0 : Int32) (S : Sg) : Prop := (vp_in x19 64 ∧ (vp_in x19 64 ∧ (∀ S12, S12 = su S 109 (nt x19) ((S.1 109 (nt x19)) - y0) → (∀ v13, v13 = x17 + y0 → k371 x13 x14 x16 v13 x18 (x19 + 1) S12))))
theorem k_L_isShown_461 (hT : xT X = tb1) (hl : l.stackTraces = false) (C : Cn X k0 p l R s m meth c cL_isShown RL 22 14 321) (hr : meth.sig.returnType = (some .boolean)) (hnm : meth.name = yL_isShown.name) (htab : (∀ x ∈ c.exceptionTable.toList, False)) {k371 : Int32 → Int32 → Int32 → Int32 → Int32 → Int32 → Sg → Prop} (hk371 : ∀ {x13 : Int32} {x14 : Int32} {x16 : Int32} {x17 : Int32} {x18 : Int32} {x19 : Int32} {S : Sg}, k371 x13 x14 x16 x17 x18 x19 S → V X p l e R s m args below meth c 22 (QM X below args s S0 ad0 rvI Qa) S0 ad0 S 371 [(0, Value.ref (enc 0 0)), (1, Value.ref (enc 13 3)), (2, Value.ref (enc 13 4)), (3, Value.ref (enc 13 6)), (5, Value.ref (enc 13 8)), (6, Value.ref (enc 13 9)), (9, Value.ref (enc 13 12)), (13, Value.int x13), (14, Value.int x14), (16, Value.int x16), (17, Value.int x17), (18, Value.int x18), (19, Value.int x19)] []) {x13 : Int32} {x14 : Int32} {x16 : Int32} {x17 : Int32} {x18 : Int32} {x19 : Int32} {y0 : Int32} {S : Sg} (h : w_L_isShown_461 k371 Qa x13 x14 x16 x17 x18 x19 y0 S) : V X p l e R s m args below meth c 22 (QM X below args s S0 ad0 rvI Qa) S0 ad0 S 461 [(0, Value.ref (enc 0 0)), (1, Value.ref (enc 13 3)), (2, Value.ref (enc 13 4)), (3, Value.ref (enc 13 6)), (5, Value.ref (enc 13 8)), (6, Value.ref (enc 13 9)), (9, Value.ref (enc 13 12)), (13, Value.int x13), (14, Value.int x14), (16, Value.int x16), (17, Value.int x17), (18, Value.int x18), (19, Value.int x19)] [Value.int y0] := by
  refine V_istore (pc := 461) C dL_isShown_461 (by decide) rfl ?_
  refine V_aload (pc := 463) C dL_isShown_463 6 rfl ?_
  refine V_iload (pc := 465) C dL_isShown_465 13 rfl ?_
  refine V_dup2 (pc := 467) C dL_isShown_467 rfl rfl ?_
  refine V_mld (pc := 468) C hT tb1_arr (n := 64) (c9 := 109) rfl rfl rfl h dL_isShown_468 (fun h => ?_)
  refine V_iload (pc := 469) C dL_isShown_469 0 rfl ?_
  refine V_isub (pc := 471) C dL_isShown_471 ?_
  refine V_mst (pc := 472) C hT tb1_arr (n := 64) (c9 := 109) (by decide) rfl rfl rfl h dL_isShown_472 (fun h => V_nx fun S12 e9 => ?_)
  replace h := h S12 e9; clear e9
  refine V_iload (pc := 473) C dL_isShown_473 11 rfl ?_
  refine V_iload (pc := 475) C dL_isShown_475 0 rfl ?_
  refine V_iadd (pc := 477) C dL_isShown_477 ?_
  refine V_nI fun v13 e9 => ?_
  replace h := h v13 e9; clear e9
  refine V_istore (pc := 478) C dL_isShown_478 (by decide) rfl ?_
  refine V_iinc (pc := 480) C (a := 13) (v := x19 + 1) dL_isShown_480 rfl rfl (by decide) rfl ?_
  refine V_goto (pc := 483) (tgt := 371) C dL_isShown_483 (by decide) ?_
  refine V_sub [3, 4, 5, 6, 7, 8, 9, 10, 11, 12, 1, 13, 0] rfl ?_
  exact hk371 h
def w_L_isShown_415 (k371 : Int32 → Int32 → Int32 → Int32 → Int32 → Int32 → Sg → Prop) (Q : Nat → Int32 → Sg → Prop) (x13 : Int32) (x14 : Int32) (x16 : Int32) (x17 : Int32) (x18 : Int32) (x19 : Int32) (y0 : Int32) (S : Sg) : Prop := ((y0 = 0 → w_L_isShown_461 k371 Q x13 x14 x16 x17 x18 x19 0 S) ∧ (¬ y0 = 0 → (vp_in x13 11 ∧ (vp_in (8 * ((S.1 106 (nt x13)) - (S.1 106 (nt x13)) / 4 * 4)) 24 ∧ ((((S.1 104 (nt (8 * ((S.1 106 (nt x13)) - (S.1 106 (nt x13)) / 4 * 4)))) * 2) ≤ (x18 * 3) → (vp_in x19 64 ∧ w_L_isShown_461 k371 Q x13 x14 x16 x17 x18 x19 ((S.1 109 (nt x19)) / 2) S)) ∧ (¬ ((S.1 104 (nt (8 * ((S.1 106 (nt x13)) - (S.1 106 (nt x13)) / 4 * 4)))) * 2) ≤ (x18 * 3) → (vp_in x19 64 ∧ w_L_isShown_461 k371 Q x13 x14 x16 x17 x18 x19 (S.1 109 (nt x19)) S)))))))
theorem k_L_isShown_415 (hT : xT X = tb1) (hl : l.stackTraces = false) (C : Cn X k0 p l R s m meth c cL_isShown RL 22 14 321) (hr : meth.sig.returnType = (some .boolean)) (hnm : meth.name = yL_isShown.name) (htab : (∀ x ∈ c.exceptionTable.toList, False)) {k371 : Int32 → Int32 → Int32 → Int32 → Int32 → Int32 → Sg → Prop} (hk371 : ∀ {x13 : Int32} {x14 : Int32} {x16 : Int32} {x17 : Int32} {x18 : Int32} {x19 : Int32} {S : Sg}, k371 x13 x14 x16 x17 x18 x19 S → V X p l e R s m args below meth c 22 (QM X below args s S0 ad0 rvI Qa) S0 ad0 S 371 [(0, Value.ref (enc 0 0)), (1, Value.ref (enc 13 3)), (2, Value.ref (enc 13 4)), (3, Value.ref (enc 13 6)), (5, Value.ref (enc 13 8)), (6, Value.ref (enc 13 9)), (9, Value.ref (enc 13 12)), (13, Value.int x13), (14, Value.int x14), (16, Value.int x16), (17, Value.int x17), (18, Value.int x18), (19, Value.int x19)] []) {x13 : Int32} {x14 : Int32} {x16 : Int32} {x17 : Int32} {x18 : Int32} {x19 : Int32} {y0 : Int32} {S : Sg} (h : w_L_isShown_415 k371 Qa x13 x14 x16 x17 x18 x19 y0 S) : V X p l e R s m args below meth c 22 (QM X below args s S0 ad0 rvI Qa) S0 ad0 S 415 [(0, Value.ref (enc 0 0)), (1, Value.ref (enc 13 3)), (2, Value.ref (enc 13 4)), (3, Value.ref (enc 13 6)), (5, Value.ref (enc 13 8)), (6, Value.ref (enc 13 9)), (9, Value.ref (enc 13 12)), (13, Value.int x13), (14, Value.int x14), (16, Value.int x16), (17, Value.int x17), (18, Value.int x18), (19, Value.int x19)] [Value.int y0] := by
  refine V_istore (pc := 415) C dL_isShown_415 (by decide) rfl ?_
  refine V_iload (pc := 417) C dL_isShown_417 0 rfl ?_
  refine V_if_ne (pc := 419) (tgt := 426) C dL_isShown_419 (by decide) h (fun h => ?_) (fun h => ?_)
  · refine V_iload (pc := 426) C dL_isShown_426 12 rfl ?_
    refine V_iconst (pc := 428) C (v := 3) dL_isShown_428 rfl ?_
    refine V_imul (pc := 429) C dL_isShown_429 ?_
    refine V_aload_n (pc := 430) C dL_isShown_430 rfl 3 rfl ?_
    refine V_bipush (pc := 431) C (v := 8) dL_isShown_431 rfl ?_
    refine V_aload_n (pc := 433) C dL_isShown_433 rfl 4 rfl ?_
    refine V_iload (pc := 434) C dL_isShown_434 8 rfl ?_
    refine V_mld (pc := 436) C hT tb1_arr (n := 11) (c9 := 106) rfl rfl rfl h dL_isShown_436 (fun h => ?_)
    refine V_iconst (pc := 437) C (v := 4) dL_isShown_437 rfl ?_
    refine V_irem (pc := 438) C dL_isShown_438 (by decide) ?_
    refine V_imul (pc := 439) C dL_isShown_439 ?_
    refine V_mld (pc := 440) C hT tb1_arr (n := 24) (c9 := 104) rfl rfl rfl h dL_isShown_440 (fun h => ?_)
    refine V_iconst (pc := 441) C (v := 2) dL_isShown_441 rfl ?_
    refine V_imul (pc := 442) C dL_isShown_442 ?_
    refine V_icmp_ge (pc := 443) (tgt := 454) C dL_isShown_443 (by decide) h (fun h => ?_) (fun h => ?_)
    · refine V_aload (pc := 454) C dL_isShown_454 6 rfl ?_
      refine V_iload (pc := 456) C dL_isShown_456 13 rfl ?_
      refine V_mld (pc := 458) C hT tb1_arr (n := 64) (c9 := 109) rfl rfl rfl h dL_isShown_458 (fun h => ?_)
      refine V_iconst (pc := 459) C (v := 2) dL_isShown_459 rfl ?_
      refine V_idiv (pc := 460) C dL_isShown_460 (by decide) ?_
      refine V_sub [1, 2, 3, 4, 5, 6, 7, 8, 9, 10, 11, 12, 13] rfl ?_
      exact k_L_isShown_461 hT hl C hr hnm htab (fun h => hk371 h) h
    · refine V_aload (pc := 446) C dL_isShown_446 6 rfl ?_
      refine V_iload (pc := 448) C dL_isShown_448 13 rfl ?_
      refine V_mld (pc := 450) C hT tb1_arr (n := 64) (c9 := 109) rfl rfl rfl h dL_isShown_450 (fun h => ?_)
      refine V_goto (pc := 451) (tgt := 461) C dL_isShown_451 (by decide) ?_
      refine V_sub [1, 2, 3, 4, 5, 6, 7, 8, 9, 10, 11, 12, 13] rfl ?_
      exact k_L_isShown_461 hT hl C hr hnm htab (fun h => hk371 h) h
  · refine V_iconst (pc := 422) C (v := 0) dL_isShown_422 rfl ?_
    refine V_goto (pc := 423) (tgt := 461) C dL_isShown_423 (by decide) ?_
    refine V_sub [1, 2, 3, 4, 5, 6, 7, 8, 9, 10, 11, 12, 13] rfl ?_
    exact k_L_isShown_461 hT hl C hr hnm htab (fun h => hk371 h) h
def w_L_isShown_414 (k371 : Int32 → Int32 → Int32 → Int32 → Int32 → Int32 → Sg → Prop) (Q : Nat → Int32 → Sg → Prop) (x13 : Int32) (x14 : Int32) (x16 : Int32) (x17 : Int32) (x18 : Int32) (x19 : Int32) (S : Sg) : Prop := w_L_isShown_415 k371 Q x13 x14 x16 x17 x18 x19 0 S
theorem k_L_isShown_414 (hT : xT X = tb1) (hl : l.stackTraces = false) (C : Cn X k0 p l R s m meth c cL_isShown RL 22 14 321) (hr : meth.sig.returnType = (some .boolean)) (hnm : meth.name = yL_isShown.name) (htab : (∀ x ∈ c.exceptionTable.toList, False)) {k371 : Int32 → Int32 → Int32 → Int32 → Int32 → Int32 → Sg → Prop} (hk371 : ∀ {x13 : Int32} {x14 : Int32} {x16 : Int32} {x17 : Int32} {x18 : Int32} {x19 : Int32} {S : Sg}, k371 x13 x14 x16 x17 x18 x19 S → V X p l e R s m args below meth c 22 (QM X below args s S0 ad0 rvI Qa) S0 ad0 S 371 [(0, Value.ref (enc 0 0)), (1, Value.ref (enc 13 3)), (2, Value.ref (enc 13 4)), (3, Value.ref (enc 13 6)), (5, Value.ref (enc 13 8)), (6, Value.ref (enc 13 9)), (9, Value.ref (enc 13 12)), (13, Value.int x13), (14, Value.int x14), (16, Value.int x16), (17, Value.int x17), (18, Value.int x18), (19, Value.int x19)] []) {x13 : Int32} {x14 : Int32} {x16 : Int32} {x17 : Int32} {x18 : Int32} {x19 : Int32} {S : Sg} (h : w_L_isShown_414 k371 Qa x13 x14 x16 x17 x18 x19 S) : V X p l e R s m args below meth c 22 (QM X below args s S0 ad0 rvI Qa) S0 ad0 S 414 [(0, Value.ref (enc 0 0)), (1, Value.ref (enc 13 3)), (2, Value.ref (enc 13 4)), (3, Value.ref (enc 13 6)), (5, Value.ref (enc 13 8)), (6, Value.ref (enc 13 9)), (9, Value.ref (enc 13 12)), (13, Value.int x13), (14, Value.int x14), (16, Value.int x16), (17, Value.int x17), (18, Value.int x18), (19, Value.int x19)] [] := by
  refine V_iconst (pc := 414) C (v := 0) dL_isShown_414 rfl ?_
  refine V_sub [0, 1, 2, 3, 4, 5, 6, 7, 8, 9, 10, 11, 12] rfl ?_
  exact k_L_isShown_415 hT hl C hr hnm htab (fun h => hk371 h) h
def w_L_isShown_371  (Q : Nat → Int32 → Sg → Prop) : Nat → Int32 → Int32 → Int32 → Int32 → Int32 → Int32 → Sg → Prop
  | 0, _, _, _, _, _, _, _ => False
  | n + 1, x13, x14, x16, x17, x18, x19, S => (vp_in 7 8 ∧ (((S.1 112 (nt 7)) ≤ x19 → w_L_isShown_486  Q x13 x14 x16 x17 x18 S) ∧ (¬ (S.1 112 (nt 7)) ≤ x19 → ((x16 = 0 → w_L_isShown_486  Q x13 x14 x16 x17 x18 S) ∧ (¬ x16 = 0 → (vp_in x19 64 ∧ ((((S.1 108 (nt x19)) - (S.1 108 (nt x19)) / 8 * 8) = x13 → (vp_in x19 64 ∧ ((16384 ≤ (S.1 108 (nt x19)) → w_L_isShown_414 (fun x13 x14 x16 x17 x18 x19 S => w_L_isShown_371  Q n x13 x14 x16 x17 x18 x19 S) Q x13 x14 x16 x17 x18 x19 S) ∧ (¬ 16384 ≤ (S.1 108 (nt x19)) → w_L_isShown_415 (fun x13 x14 x16 x17 x18 x19 S => w_L_isShown_371  Q n x13 x14 x16 x17 x18 x19 S) Q x13 x14 x16 x17 x18 x19 1 S)))) ∧ (¬ ((S.1 108 (nt x19)) - (S.1 108 (nt x19)) / 8 * 8) = x13 → w_L_isShown_414 (fun x13 x14 x16 x17 x18 x19 S => w_L_isShown_371  Q n x13 x14 x16 x17 x18 x19 S) Q x13 x14 x16 x17 x18 x19 S))))))))
theorem k_L_isShown_371 (hT : xT X = tb1) (hl : l.stackTraces = false) (C : Cn X k0 p l R s m meth c cL_isShown RL 22 14 321) (hr : meth.sig.returnType = (some .boolean)) (hnm : meth.name = yL_isShown.name) (htab : (∀ x ∈ c.exceptionTable.toList, False))  : ∀ n {x13 : Int32} {x14 : Int32} {x16 : Int32} {x17 : Int32} {x18 : Int32} {x19 : Int32} {S : Sg}, w_L_isShown_371  Qa n x13 x14 x16 x17 x18 x19 S → V X p l e R s m args below meth c 22 (QM X below args s S0 ad0 rvI Qa) S0 ad0 S 371 [(0, Value.ref (enc 0 0)), (1, Value.ref (enc 13 3)), (2, Value.ref (enc 13 4)), (3, Value.ref (enc 13 6)), (5, Value.ref (enc 13 8)), (6, Value.ref (enc 13 9)), (9, Value.ref (enc 13 12)), (13, Value.int x13), (14, Value.int x14), (16, Value.int x16), (17, Value.int x17), (18, Value.int x18), (19, Value.int x19)] [] := by
  intro n
  induction n with
  | zero => intro x13 x14 x16 x17 x18 x19 S h; exact h.elim
  | succ n ih =>
    intro x13 x14 x16 x17 x18 x19 S h
    refine V_iload (pc := 371) C dL_isShown_371 12 rfl ?_
    refine V_aload (pc := 373) C dL_isShown_373 6 rfl ?_
    refine V_bipush (pc := 375) C (v := 7) dL_isShown_375 rfl ?_
    refine V_mld (pc := 377) C hT tb1_arr (n := 8) (c9 := 112) rfl rfl rfl h dL_isShown_377 (fun h => ?_)
    refine V_icmp_ge (pc := 378) (tgt := 486) C dL_isShown_378 (by decide) h (fun h => ?_) (fun h => ?_)
    · refine V_sub [0, 1, 3, 7, 8, 9, 10, 11] rfl ?_
      exact k_L_isShown_486 hT hl C hr hnm htab  h
    · refine V_iload (pc := 381) C dL_isShown_381 9 rfl ?_
      refine V_if_eq (pc := 383) (tgt := 486) C dL_isShown_383 (by decide) h (fun h => ?_) (fun h => ?_)
      · refine V_sub [0, 1, 3, 7, 8, 9, 10, 11] rfl ?_
        exact k_L_isShown_486 hT hl C hr hnm htab  h
      · refine V_aload (pc := 386) C dL_isShown_386 4 rfl ?_
        refine V_iload (pc := 388) C dL_isShown_388 12 rfl ?_
        refine V_mld (pc := 390) C hT tb1_arr (n := 64) (c9 := 108) rfl rfl rfl h dL_isShown_390 (fun h => ?_)
        refine V_bipush (pc := 391) C (v := 8) dL_isShown_391 rfl ?_
        refine V_irem (pc := 393) C dL_isShown_393 (by decide) ?_
        refine V_iload (pc := 394) C dL_isShown_394 7 rfl ?_
        refine V_icmp_ne (pc := 396) (tgt := 414) C dL_isShown_396 (by decide) h (fun h => ?_) (fun h => ?_)
        · refine V_sub [0, 1, 2, 3, 4, 5, 6, 7, 8, 9, 10, 11, 12] rfl ?_
          exact k_L_isShown_414 hT hl C hr hnm htab (fun h => ih h) h
        · refine V_aload (pc := 399) C dL_isShown_399 4 rfl ?_
          refine V_iload (pc := 401) C dL_isShown_401 12 rfl ?_
          refine V_mld (pc := 403) C hT tb1_arr (n := 64) (c9 := 108) rfl rfl rfl h dL_isShown_403 (fun h => ?_)
          refine V_sipush (pc := 404) C (v := 16384) dL_isShown_404 rfl ?_
          refine V_icmp_ge (pc := 407) (tgt := 414) C dL_isShown_407 (by decide) h (fun h => ?_) (fun h => ?_)
          · refine V_sub [0, 1, 2, 3, 4, 5, 6, 7, 8, 9, 10, 11, 12] rfl ?_
            exact k_L_isShown_414 hT hl C hr hnm htab (fun h => ih h) h
          · refine V_iconst (pc := 410) C (v := 1) dL_isShown_410 rfl ?_
            refine V_goto (pc := 411) (tgt := 415) C dL_isShown_411 (by decide) ?_
            refine V_sub [0, 1, 2, 3, 4, 5, 6, 7, 8, 9, 10, 11, 12] rfl ?_
            exact k_L_isShown_415 hT hl C hr hnm htab (fun h => ih h) h
def w_L_isShown_366  (Q : Nat → Int32 → Sg → Prop) (x13 : Int32) (x14 : Int32) (x16 : Int32) (x17 : Int32) (y0 : Int32) (S : Sg) : Prop := ∃ n9, w_L_isShown_371  Q n9 x13 x14 x16 x17 y0 0 S
theorem k_L_isShown_366 (hT : xT X = tb1) (hl : l.stackTraces = false) (C : Cn X k0 p l R s m meth c cL_isShown RL 22 14 321) (hr : meth.sig.returnType = (some .boolean)) (hnm : meth.name = yL_isShown.name) (htab : (∀ x ∈ c.exceptionTable.toList, False))  {x13 : Int32} {x14 : Int32} {x16 : Int32} {x17 : Int32} {y0 : Int32} {S : Sg} (h : w_L_isShown_366  Qa x13 x14 x16 x17 y0 S) : V X p l e R s m args below meth c 22 (QM X below args s S0 ad0 rvI Qa) S0 ad0 S 366 [(0, Value.ref (enc 0 0)), (1, Value.ref (enc 13 3)), (2, Value.ref (enc 13 4)), (3, Value.ref (enc 13 6)), (5, Value.ref (enc 13 8)), (6, Value.ref (enc 13 9)), (9, Value.ref (enc 13 12)), (13, Value.int x13), (14, Value.int x14), (16, Value.int x16), (17, Value.int x17)] [Value.int y0] := by
  refine V_istore (pc := 366) C dL_isShown_366 (by decide) rfl ?_
  refine V_iconst (pc := 368) C (v := 0) dL_isShown_368 rfl ?_
  refine V_istore (pc := 369) C dL_isShown_369 (by decide) rfl ?_
  refine V_sub [2, 3, 4, 5, 6, 7, 8, 9, 10, 11, 12, 1, 0] rfl ?_
  obtain ⟨n9, h⟩ := h
  exact k_L_isShown_371 hT hl C hr hnm htab  n9 h
def w_L_isShown_341  (Q : Nat → Int32 → Sg → Prop) (x13 : Int32) (x14 : Int32) (y0 : Int32) (S : Sg) : Prop := ((y0 = 0 → w_L_isShown_366  Q x13 x14 y0 0 0 S) ∧ (¬ y0 = 0 → (vp_in 0 8 ∧ (vp_in (5 + x13) 11 ∧ w_L_isShown_366  Q x13 x14 y0 0 ((S.1 112 (nt 0)) - (S.1 106 (nt (5 + x13)))) S))))
theorem k_L_isShown_341 (hT : xT X = tb1) (hl : l.stackTraces = false) (C : Cn X k0 p l R s m meth c cL_isShown RL 22 14 321) (hr : meth.sig.returnType = (some .boolean)) (hnm : meth.name = yL_isShown.name) (htab : (∀ x ∈ c.exceptionTable.toList, False))  {x13 : Int32} {x14 : Int32} {y0 : Int32} {S : Sg} (h : w_L_isShown_341  Qa x13 x14 y0 S) : V X p l e R s m args below meth c 22 (QM X below args s S0 ad0 rvI Qa) S0 ad0 S 341 [(0, Value.ref (enc 0 0)), (1, Value.ref (enc 13 3)), (2, Value.ref (enc 13 4)), (3, Value.ref (enc 13 6)), (5, Value.ref (enc 13 8)), (6, Value.ref (enc 13 9)), (9, Value.ref (enc 13 12)), (13, Value.int x13), (14, Value.int x14)] [Value.int y0] := by
  refine V_istore (pc := 341) C dL_isShown_341 (by decide) rfl ?_
  refine V_iconst (pc := 343) C (v := 0) dL_isShown_343 rfl ?_
  refine V_istore (pc := 344) C dL_isShown_344 (by decide) rfl ?_
  refine V_iload (pc := 346) C dL_isShown_346 1 rfl ?_
  refine V_if_eq (pc := 348) (tgt := 365) C dL_isShown_348 (by decide) h (fun h => ?_) (fun h => ?_)
  · refine V_iconst (pc := 365) C (v := 0) dL_isShown_365 rfl ?_
    refine V_sub [2, 3, 4, 5, 6, 7, 8, 9, 10, 1, 0] rfl ?_
    exact k_L_isShown_366 hT hl C hr hnm htab  h
  · refine V_aload (pc := 351) C dL_isShown_351 8 rfl ?_
    refine V_iconst (pc := 353) C (v := 0) dL_isShown_353 rfl ?_
    refine V_mld (pc := 354) C hT tb1_arr (n := 8) (c9 := 112) rfl rfl rfl h dL_isShown_354 (fun h => ?_)
    refine V_aload_n (pc := 355) C dL_isShown_355 rfl 5 rfl ?_
    refine V_iconst (pc := 356) C (v := 5) dL_isShown_356 rfl ?_
    refine V_iload (pc := 357) C dL_isShown_357 9 rfl ?_
    refine V_iadd (pc := 359) C dL_isShown_359 ?_
    refine V_mld (pc := 360) C hT tb1_arr (n := 11) (c9 := 106) rfl rfl rfl h dL_isShown_360 (fun h => ?_)
    refine V_isub (pc := 361) C dL_isShown_361 ?_
    refine V_goto (pc := 362) (tgt := 366) C dL_isShown_362 (by decide) ?_
    refine V_sub [2, 3, 4, 5, 6, 7, 8, 9, 10, 1, 0] rfl ?_
    exact k_L_isShown_366 hT hl C hr hnm htab  h
def w_L_isShown_315  (Q : Nat → Int32 → Sg → Prop) (y0 : Int32) (y1 : Int32) (S : Sg) : Prop := ((y1 = y0 → Q 0 1 S) ∧ (¬ y1 = y0 → Q 0 0 S))
theorem k_L_isShown_315 (hT : xT X = tb1) (hl : l.stackTraces = false) (C : Cn X k0 p l R s m meth c cL_isShown RL 22 14 321) (hr : meth.sig.returnType = (some .boolean)) (hnm : meth.name = yL_isShown.name) (htab : (∀ x ∈ c.exceptionTable.toList, False))  {y0 : Int32} {y1 : Int32} {S : Sg} (h : w_L_isShown_315  Qa y0 y1 S) : V X p l e R s m args below meth c 22 (QM X below args s S0 ad0 rvI Qa) S0 ad0 S 315 [] [Value.int y0, Value.int y1] := by
  refine V_icmp_ne (pc := 315) (tgt := 322) C dL_isShown_315 (by decide) h (fun h => ?_) (fun h => ?_)
  · refine V_iconst (pc := 322) C (v := 0) dL_isShown_322 rfl ?_
    exact V_zret (pc := 323) C hr (by decide) rfl h dL_isShown_323
  · refine V_iconst (pc := 318) C (v := 1) dL_isShown_318 rfl ?_
    refine V_goto (pc := 319) (tgt := 323) C dL_isShown_319 (by decide) ?_
    exact V_zret (pc := 323) C hr (by decide) rfl h dL_isShown_323
def w_L_isShown_275  (Q : Nat → Int32 → Sg → Prop) (x13 : Int32) (x14 : Int32) (x16 : Int32) (x17 : Int32) (y0 : Int32) (S : Sg) : Prop := (vp_in y0 11 ∧ (vp_in y0 11 ∧ (∀ S14, S14 = su S 106 (nt y0) ((S.1 106 (nt y0)) + 64) → (w_L_does 6 x13 0 0 0 0 S14 (fun k17 v16 S15 => (k17 = 0 → ((x14 = 0 → w_L_isShown_315  Q (-3000000) v16 S15) ∧ (¬ x14 = 0 → ((x16 = 0 → w_L_isShown_315  Q (-1000000) v16 S15) ∧ (¬ x16 = 0 → w_L_isShown_315  Q x17 v16 S15))))) ∧ (¬ k17 = 0 → Q k17 0 S15))))))
theorem k_L_isShown_275 (hT : xT X = tb1) (hl : l.stackTraces = false) (C : Cn X k0 p l R s m meth c cL_isShown RL 22 14 321) (hr : meth.sig.returnType = (some .boolean)) (hnm : meth.name = yL_isShown.name) (htab : (∀ x ∈ c.exceptionTable.toList, False))  {x13 : Int32} {x14 : Int32} {x16 : Int32} {x17 : Int32} {y0 : Int32} {S : Sg} (h : w_L_isShown_275  Qa x13 x14 x16 x17 y0 S) : V X p l e R s m args below meth c 22 (QM X below args s S0 ad0 rvI Qa) S0 ad0 S 275 [(0, Value.ref (enc 0 0)), (13, Value.int x13), (14, Value.int x14), (16, Value.int x16), (17, Value.int x17)] [Value.int y0, Value.ref (enc 13 6)] := by
  refine V_dup2 (pc := 275) C dL_isShown_275 rfl rfl ?_
  refine V_mld (pc := 276) C hT tb1_arr (n := 11) (c9 := 106) rfl rfl rfl h dL_isShown_276 (fun h => ?_)
  refine V_bipush (pc := 277) C (v := 64) dL_isShown_277 rfl ?_
  refine V_iadd (pc := 279) C dL_isShown_279 ?_
  refine V_mst (pc := 280) C hT tb1_arr (n := 11) (c9 := 106) (by decide) rfl rfl rfl h dL_isShown_280 (fun h => V_nx fun S14 e9 => ?_)
  replace h := h S14 e9; clear e9
  refine V_aload_n (pc := 281) C dL_isShown_281 rfl 0 rfl ?_
  refine V_bipush (pc := 282) C (v := 6) dL_isShown_282 rfl ?_
  refine V_iload (pc := 284) C dL_isShown_284 1 rfl ?_
  refine V_iconst (pc := 286) C (v := 0) dL_isShown_286 rfl ?_
  refine V_iconst (pc := 287) C (v := 0) dL_isShown_287 rfl ?_
  refine V_iconst (pc := 288) C (v := 0) dL_isShown_288 rfl ?_
  refine V_iconst (pc := 289) C (v := 0) dL_isShown_289 rfl ?_
  refine V_callH (pc := 290) C (ct_L_does hT hl h) g119 g120 g121 g32 ⟨by decide, by decide, pl_L_does⟩ ⟨by decide, by decide⟩ (rest := []) rfl (le8 rfl) dL_isShown_290 (fun v16 S15 h => ?_) (fun k9 S9 hk h => VX_out C htab hk (h.2 (by omega)))
  replace h := h.1 rfl
  refine V_st (st' := [Value.int v16]) rfl ?_
  refine V_iload (pc := 293) C dL_isShown_293 2 rfl ?_
  refine V_if_ne (pc := 295) (tgt := 303) C dL_isShown_295 (by decide) h (fun h => ?_) (fun h => ?_)
  · refine V_iload (pc := 303) C dL_isShown_303 3 rfl ?_
    refine V_if_eq (pc := 305) (tgt := 313) C dL_isShown_305 (by decide) h (fun h => ?_) (fun h => ?_)
    · refine V_ldc (pc := 313) C g781 dL_isShown_313 ?_
      refine V_sub [] rfl ?_
      exact k_L_isShown_315 hT hl C hr hnm htab  h
    · refine V_iload (pc := 308) C dL_isShown_308 4 rfl ?_
      refine V_goto (pc := 310) (tgt := 315) C dL_isShown_310 (by decide) ?_
      refine V_sub [] rfl ?_
      exact k_L_isShown_315 hT hl C hr hnm htab  h
  · refine V_ldc (pc := 298) C g779 dL_isShown_298 ?_
    refine V_goto (pc := 300) (tgt := 315) C dL_isShown_300 (by decide) ?_
    refine V_sub [] rfl ?_
    exact k_L_isShown_315 hT hl C hr hnm htab  h
def w_L_isShown_262  (Q : Nat → Int32 → Sg → Prop) (x13 : Int32) (x14 : Int32) (x16 : Int32) (x17 : Int32) (S : Sg) : Prop := ((x16 = 0 → w_L_isShown_275  Q x13 x14 x16 x17 10 S) ∧ (¬ x16 = 0 → w_L_isShown_275  Q x13 x14 x16 x17 x13 S))
theorem k_L_isShown_262 (hT : xT X = tb1) (hl : l.stackTraces = false) (C : Cn X k0 p l R s m meth c cL_isShown RL 22 14 321) (hr : meth.sig.returnType = (some .boolean)) (hnm : meth.name = yL_isShown.name) (htab : (∀ x ∈ c.exceptionTable.toList, False))  {x13 : Int32} {x14 : Int32} {x16 : Int32} {x17 : Int32} {S : Sg} (h : w_L_isShown_262  Qa x13 x14 x16 x17 S) : V X p l e R s m args below meth c 22 (QM X below args s S0 ad0 rvI Qa) S0 ad0 S 262 [(0, Value.ref (enc 0 0)), (3, Value.ref (enc 13 6)), (13, Value.int x13), (14, Value.int x14), (16, Value.int x16), (17, Value.int x17)] [] := by
  refine V_aload_n (pc := 262) C dL_isShown_262 rfl 1 rfl ?_
  refine V_iload (pc := 263) C dL_isShown_263 4 rfl ?_
  refine V_if_eq (pc := 265) (tgt := 273) C dL_isShown_265 (by decide) h (fun h => ?_) (fun h => ?_)
  · refine V_bipush (pc := 273) C (v := 10) dL_isShown_273 rfl ?_
    refine V_sub [0, 2, 3, 4, 5] rfl ?_
    exact k_L_isShown_275 hT hl C hr hnm htab  h
  · refine V_iload (pc := 268) C dL_isShown_268 2 rfl ?_
    refine V_goto (pc := 270) (tgt := 275) C dL_isShown_270 (by decide) ?_
    refine V_sub [0, 2, 3, 4, 5] rfl ?_
    exact k_L_isShown_275 hT hl C hr hnm htab  h
def w_L_isShown_253 (k209 : Int32 → Int32 → Int32 → Int32 → Int32 → Sg → Prop) (Q : Nat → Int32 → Sg → Prop) (x13 : Int32) (x14 : Int32) (x16 : Int32) (x17 : Int32) (x18 : Int32) (y0 : Int32) (y1 : Int32) (S : Sg) : Prop := (vp_in (y1 + y0) 50 ∧ (∀ S18, S18 = su S 111 (nt (y1 + y0)) 0 → k209 x13 x14 x16 x17 (x18 + 1) S18))
theorem k_L_isShown_253 (hT : xT X = tb1) (hl : l.stackTraces = false) (C : Cn X k0 p l R s m meth c cL_isShown RL 22 14 321) (hr : meth.sig.returnType = (some .boolean)) (hnm : meth.name = yL_isShown.name) (htab : (∀ x ∈ c.exceptionTable.toList, False)) {k209 : Int32 → Int32 → Int32 → Int32 → Int32 → Sg → Prop} (hk209 : ∀ {x13 : Int32} {x14 : Int32} {x16 : Int32} {x17 : Int32} {x18 : Int32} {S : Sg}, k209 x13 x14 x16 x17 x18 S → V X p l e R s m args below meth c 22 (QM X below args s S0 ad0 rvI Qa) S0 ad0 S 209 [(0, Value.ref (enc 0 0)), (3, Value.ref (enc 13 6)), (4, Value.ref (enc 13 7)), (8, Value.ref (enc 13 11)), (13, Value.int x13), (14, Value.int x14), (16, Value.int x16), (17, Value.int x17), (18, Value.int x18)] []) {x13 : Int32} {x14 : Int32} {x16 : Int32} {x17 : Int32} {x18 : Int32} {y0 : Int32} {y1 : Int32} {S : Sg} (h : w_L_isShown_253 k209 Qa x13 x14 x16 x17 x18 y0 y1 S) : V X p l e R s m args below meth c 22 (QM X below args s S0 ad0 rvI Qa) S0 ad0 S 253 [(0, Value.ref (enc 0 0)), (3, Value.ref (enc 13 6)), (4, Value.ref (enc 13 7)), (8, Value.ref (enc 13 11)), (13, Value.int x13), (14, Value.int x14), (16, Value.int x16), (17, Value.int x17), (18, Value.int x18)] [Value.int y0, Value.int y1, Value.ref (enc 13 11)] := by
  refine V_iadd (pc := 253) C dL_isShown_253 ?_
  refine V_iconst (pc := 254) C (v := 0) dL_isShown_254 rfl ?_
  refine V_mst (pc := 255) C hT tb1_arr (n := 50) (c9 := 111) (by decide) rfl rfl rfl h dL_isShown_255 (fun h => V_nx fun S18 e9 => ?_)
  replace h := h S18 e9; clear e9
  refine V_iinc (pc := 256) C (a := 8) (v := x18 + 1) dL_isShown_256 rfl rfl (by decide) rfl ?_
  refine V_goto (pc := 259) (tgt := 209) C dL_isShown_259 (by decide) ?_
  refine V_sub [1, 2, 3, 4, 5, 6, 7, 8, 0] rfl ?_
  exact hk209 h
def w_L_isShown_209  (Q : Nat → Int32 → Sg → Prop) : Nat → Int32 → Int32 → Int32 → Int32 → Int32 → Sg → Prop
  | 0, _, _, _, _, _, _ => False
  | n + 1, x13, x14, x16, x17, x18, S => ((12 ≤ x18 → w_L_isShown_262  Q x13 x14 x16 x17 S) ∧ (¬ 12 ≤ x18 → ((x16 = 0 → w_L_isShown_262  Q x13 x14 x16 x17 S) ∧ (¬ x16 = 0 → (vp_in ((12 * x13) + x18) 60 ∧ (∀ S19, S19 = su S 107 (nt ((12 * x13) + x18)) 0 → ((10 ≤ x18 → w_L_isShown_253 (fun x13 x14 x16 x17 x18 S => w_L_isShown_209  Q n x13 x14 x16 x17 x18 S) Q x13 x14 x16 x17 x18 0 (10 * x13) S19) ∧ (¬ 10 ≤ x18 → w_L_isShown_253 (fun x13 x14 x16 x17 x18 S => w_L_isShown_209  Q n x13 x14 x16 x17 x18 S) Q x13 x14 x16 x17 x18 x18 (10 * x13) S19))))))))
theorem k_L_isShown_209 (hT : xT X = tb1) (hl : l.stackTraces = false) (C : Cn X k0 p l R s m meth c cL_isShown RL 22 14 321) (hr : meth.sig.returnType = (some .boolean)) (hnm : meth.name = yL_isShown.name) (htab : (∀ x ∈ c.exceptionTable.toList, False))  : ∀ n {x13 : Int32} {x14 : Int32} {x16 : Int32} {x17 : Int32} {x18 : Int32} {S : Sg}, w_L_isShown_209  Qa n x13 x14 x16 x17 x18 S → V X p l e R s m args below meth c 22 (QM X below args s S0 ad0 rvI Qa) S0 ad0 S 209 [(0, Value.ref (enc 0 0)), (3, Value.ref (enc 13 6)), (4, Value.ref (enc 13 7)), (8, Value.ref (enc 13 11)), (13, Value.int x13), (14, Value.int x14), (16, Value.int x16), (17, Value.int x17), (18, Value.int x18)] [] := by
  intro n
  induction n with
  | zero => intro x13 x14 x16 x17 x18 S h; exact h.elim
  | succ n ih =>
    intro x13 x14 x16 x17 x18 S h
    refine V_iload (pc := 209) C dL_isShown_209 8 rfl ?_
    refine V_bipush (pc := 211) C (v := 12) dL_isShown_211 rfl ?_
    refine V_icmp_ge (pc := 213) (tgt := 262) C dL_isShown_213 (by decide) h (fun h => ?_) (fun h => ?_)
    · refine V_sub [0, 1, 4, 5, 6, 7] rfl ?_
      exact k_L_isShown_262 hT hl C hr hnm htab  h
    · refine V_iload (pc := 216) C dL_isShown_216 6 rfl ?_
      refine V_if_eq (pc := 218) (tgt := 262) C dL_isShown_218 (by decide) h (fun h => ?_) (fun h => ?_)
      · refine V_sub [0, 1, 4, 5, 6, 7] rfl ?_
        exact k_L_isShown_262 hT hl C hr hnm htab  h
      · refine V_aload (pc := 221) C dL_isShown_221 2 rfl ?_
        refine V_bipush (pc := 223) C (v := 12) dL_isShown_223 rfl ?_
        refine V_iload (pc := 225) C dL_isShown_225 4 rfl ?_
        refine V_imul (pc := 227) C dL_isShown_227 ?_
        refine V_iload (pc := 228) C dL_isShown_228 8 rfl ?_
        refine V_iadd (pc := 230) C dL_isShown_230 ?_
        refine V_iconst (pc := 231) C (v := 0) dL_isShown_231 rfl ?_
        refine V_mst (pc := 232) C hT tb1_arr (n := 60) (c9 := 107) (by decide) rfl rfl rfl h dL_isShown_232 (fun h => V_nx fun S19 e9 => ?_)
        replace h := h S19 e9; clear e9
        refine V_aload (pc := 233) C dL_isShown_233 3 rfl ?_
        refine V_bipush (pc := 235) C (v := 10) dL_isShown_235 rfl ?_
        refine V_iload (pc := 237) C dL_isShown_237 4 rfl ?_
        refine V_imul (pc := 239) C dL_isShown_239 ?_
        refine V_iload (pc := 240) C dL_isShown_240 8 rfl ?_
        refine V_bipush (pc := 242) C (v := 10) dL_isShown_242 rfl ?_
        refine V_icmp_ge (pc := 244) (tgt := 252) C dL_isShown_244 (by decide) h (fun h => ?_) (fun h => ?_)
        · refine V_iconst (pc := 252) C (v := 0) dL_isShown_252 rfl ?_
          refine V_sub [0, 1, 2, 3, 4, 5, 6, 7, 8] rfl ?_
          exact k_L_isShown_253 hT hl C hr hnm htab (fun h => ih h) h
        · refine V_iload (pc := 247) C dL_isShown_247 8 rfl ?_
          refine V_goto (pc := 249) (tgt := 253) C dL_isShown_249 (by decide) ?_
          refine V_sub [0, 1, 2, 3, 4, 5, 6, 7, 8] rfl ?_
          exact k_L_isShown_253 hT hl C hr hnm htab (fun h => ih h) h
def w_L_isShown_206  (Q : Nat → Int32 → Sg → Prop) (x13 : Int32) (x14 : Int32) (x16 : Int32) (x17 : Int32) (S : Sg) : Prop := ∃ n9, w_L_isShown_209  Q n9 x13 x14 x16 x17 0 S
theorem k_L_isShown_206 (hT : xT X = tb1) (hl : l.stackTraces = false) (C : Cn X k0 p l R s m meth c cL_isShown RL 22 14 321) (hr : meth.sig.returnType = (some .boolean)) (hnm : meth.name = yL_isShown.name) (htab : (∀ x ∈ c.exceptionTable.toList, False))  {x13 : Int32} {x14 : Int32} {x16 : Int32} {x17 : Int32} {S : Sg} (h : w_L_isShown_206  Qa x13 x14 x16 x17 S) : V X p l e R s m args below meth c 22 (QM X below args s S0 ad0 rvI Qa) S0 ad0 S 206 [(0, Value.ref (enc 0 0)), (3, Value.ref (enc 13 6)), (4, Value.ref (enc 13 7)), (8, Value.ref (enc 13 11)), (13, Value.int x13), (14, Value.int x14), (16, Value.int x16), (17, Value.int x17)] [] := by
  refine V_iconst (pc := 206) C (v := 0) dL_isShown_206 rfl ?_
  refine V_istore (pc := 207) C dL_isShown_207 (by decide) rfl ?_
  refine V_sub [1, 2, 3, 4, 5, 6, 7, 8, 0] rfl ?_
  obtain ⟨n9, h⟩ := h
  exact k_L_isShown_209 hT hl C hr hnm htab  n9 h
def w_L_isShown_198 (k146 : Int32 → Int32 → Int32 → Int32 → Int32 → Sg → Prop) (Q : Nat → Int32 → Sg → Prop) (x13 : Int32) (x14 : Int32) (x16 : Int32) (x17 : Int32) (x18 : Int32) (y0 : Int32) (y1 : Int32) (y2 : Int32) (S : Sg) : Prop := (vp_in y2 48 ∧ (∀ S20, S20 = su S 110 (nt y2) (y1 + y0) → k146 x13 x14 x16 x17 (x18 + 1) S20))
theorem k_L_isShown_198 (hT : xT X = tb1) (hl : l.stackTraces = false) (C : Cn X k0 p l R s m meth c cL_isShown RL 22 14 321) (hr : meth.sig.returnType = (some .boolean)) (hnm : meth.name = yL_isShown.name) (htab : (∀ x ∈ c.exceptionTable.toList, False)) {k146 : Int32 → Int32 → Int32 → Int32 → Int32 → Sg → Prop} (hk146 : ∀ {x13 : Int32} {x14 : Int32} {x16 : Int32} {x17 : Int32} {x18 : Int32} {S : Sg}, k146 x13 x14 x16 x17 x18 S → V X p l e R s m args below meth c 22 (QM X below args s S0 ad0 rvI Qa) S0 ad0 S 146 [(0, Value.ref (enc 0 0)), (3, Value.ref (enc 13 6)), (4, Value.ref (enc 13 7)), (7, Value.ref (enc 13 10)), (8, Value.ref (enc 13 11)), (9, Value.ref (enc 13 12)), (13, Value.int x13), (14, Value.int x14), (16, Value.int x16), (17, Value.int x17), (18, Value.int x18)] []) {x13 : Int32} {x14 : Int32} {x16 : Int32} {x17 : Int32} {x18 : Int32} {y0 : Int32} {y1 : Int32} {y2 : Int32} {S : Sg} (h : w_L_isShown_198 k146 Qa x13 x14 x16 x17 x18 y0 y1 y2 S) : V X p l e R s m args below meth c 22 (QM X below args s S0 ad0 rvI Qa) S0 ad0 S 198 [(0, Value.ref (enc 0 0)), (3, Value.ref (enc 13 6)), (4, Value.ref (enc 13 7)), (7, Value.ref (enc 13 10)), (8, Value.ref (enc 13 11)), (9, Value.ref (enc 13 12)), (13, Value.int x13), (14, Value.int x14), (16, Value.int x16), (17, Value.int x17), (18, Value.int x18)] [Value.int y0, Value.int y1, Value.int y2, Value.ref (enc 13 10)] := by
  refine V_iadd (pc := 198) C dL_isShown_198 ?_
  refine V_mst (pc := 199) C hT tb1_arr (n := 48) (c9 := 110) (by decide) rfl rfl rfl h dL_isShown_199 (fun h => V_nx fun S20 e9 => ?_)
  replace h := h S20 e9; clear e9
  refine V_iinc (pc := 200) C (a := 10) (v := x18 + 1) dL_isShown_200 rfl rfl (by decide) rfl ?_
  refine V_goto (pc := 203) (tgt := 146) C dL_isShown_203 (by decide) ?_
  refine V_sub [1, 2, 3, 4, 5, 6, 7, 8, 9, 10, 0] rfl ?_
  exact hk146 h
def w_L_isShown_197 (k146 : Int32 → Int32 → Int32 → Int32 → Int32 → Sg → Prop) (Q : Nat → Int32 → Sg → Prop) (x13 : Int32) (x14 : Int32) (x16 : Int32) (x17 : Int32) (x18 : Int32) (y0 : Int32) (y1 : Int32) (S : Sg) : Prop := w_L_isShown_198 k146 Q x13 x14 x16 x17 x18 0 y0 y1 S
theorem k_L_isShown_197 (hT : xT X = tb1) (hl : l.stackTraces = false) (C : Cn X k0 p l R s m meth c cL_isShown RL 22 14 321) (hr : meth.sig.returnType = (some .boolean)) (hnm : meth.name = yL_isShown.name) (htab : (∀ x ∈ c.exceptionTable.toList, False)) {k146 : Int32 → Int32 → Int32 → Int32 → Int32 → Sg → Prop} (hk146 : ∀ {x13 : Int32} {x14 : Int32} {x16 : Int32} {x17 : Int32} {x18 : Int32} {S : Sg}, k146 x13 x14 x16 x17 x18 S → V X p l e R s m args below meth c 22 (QM X below args s S0 ad0 rvI Qa) S0 ad0 S 146 [(0, Value.ref (enc 0 0)), (3, Value.ref (enc 13 6)), (4, Value.ref (enc 13 7)), (7, Value.ref (enc 13 10)), (8, Value.ref (enc 13 11)), (9, Value.ref (enc 13 12)), (13, Value.int x13), (14, Value.int x14), (16, Value.int x16), (17, Value.int x17), (18, Value.int x18)] []) {x13 : Int32} {x14 : Int32} {x16 : Int32} {x17 : Int32} {x18 : Int32} {y0 : Int32} {y1 : Int32} {S : Sg} (h : w_L_isShown_197 k146 Qa x13 x14 x16 x17 x18 y0 y1 S) : V X p l e R s m args below meth c 22 (QM X below args s S0 ad0 rvI Qa) S0 ad0 S 197 [(0, Value.ref (enc 0 0)), (3, Value.ref (enc 13 6)), (4, Value.ref (enc 13 7)), (7, Value.ref (enc 13 10)), (8, Value.ref (enc 13 11)), (9, Value.ref (enc 13 12)), (13, Value.int x13), (14, Value.int x14), (16, Value.int x16), (17, Value.int x17), (18, Value.int x18)] [Value.int y0, Value.int y1, Value.ref (enc 13 10)] := by
  refine V_iconst (pc := 197) C (v := 0) dL_isShown_197 rfl ?_
  refine V_sub [0, 1, 2, 3, 4, 5, 6, 7, 8, 9, 10] rfl ?_
  exact k_L_isShown_198 hT hl C hr hnm htab (fun h => hk146 h) h
def w_L_isShown_146  (Q : Nat → Int32 → Sg → Prop) : Nat → Int32 → Int32 → Int32 → Int32 → Int32 → Sg → Prop
  | 0, _, _, _, _, _, _ => False
  | n + 1, x13, x14, x16, x17, x18, S => (vp_in 6 8 ∧ (((S.1 112 (nt 6)) ≤ x18 → w_L_isShown_206  Q x13 x14 x16 x17 S) ∧ (¬ (S.1 112 (nt 6)) ≤ x18 → ((x16 = 0 → w_L_isShown_206  Q x13 x14 x16 x17 S) ∧ (¬ x16 = 0 → (vp_in x18 48 ∧ (vp_in x18 48 ∧ ((((S.1 110 (nt x18)) - (S.1 110 (nt x18)) / 8 * 8) = x13 → (vp_in x18 48 ∧ ((128 ≤ (S.1 110 (nt x18)) → w_L_isShown_197 (fun x13 x14 x16 x17 x18 S => w_L_isShown_146  Q n x13 x14 x16 x17 x18 S) Q x13 x14 x16 x17 x18 (S.1 110 (nt x18)) x18 S) ∧ (¬ 128 ≤ (S.1 110 (nt x18)) → w_L_isShown_198 (fun x13 x14 x16 x17 x18 S => w_L_isShown_146  Q n x13 x14 x16 x17 x18 S) Q x13 x14 x16 x17 x18 128 (S.1 110 (nt x18)) x18 S)))) ∧ (¬ ((S.1 110 (nt x18)) - (S.1 110 (nt x18)) / 8 * 8) = x13 → w_L_isShown_197 (fun x13 x14 x16 x17 x18 S => w_L_isShown_146  Q n x13 x14 x16 x17 x18 S) Q x13 x14 x16 x17 x18 (S.1 110 (nt x18)) x18 S)))))))))
theorem k_L_isShown_146 (hT : xT X = tb1) (hl : l.stackTraces = false) (C : Cn X k0 p l R s m meth c cL_isShown RL 22 14 321) (hr : meth.sig.returnType = (some .boolean)) (hnm : meth.name = yL_isShown.name) (htab : (∀ x ∈ c.exceptionTable.toList, False))  : ∀ n {x13 : Int32} {x14 : Int32} {x16 : Int32} {x17 : Int32} {x18 : Int32} {S : Sg}, w_L_isShown_146  Qa n x13 x14 x16 x17 x18 S → V X p l e R s m args below meth c 22 (QM X below args s S0 ad0 rvI Qa) S0 ad0 S 146 [(0, Value.ref (enc 0 0)), (3, Value.ref (enc 13 6)), (4, Value.ref (enc 13 7)), (7, Value.ref (enc 13 10)), (8, Value.ref (enc 13 11)), (9, Value.ref (enc 13 12)), (13, Value.int x13), (14, Value.int x14), (16, Value.int x16), (17, Value.int x17), (18, Value.int x18)] [] := by
  intro n
  induction n with
  | zero => intro x13 x14 x16 x17 x18 S h; exact h.elim
  | succ n ih =>
    intro x13 x14 x16 x17 x18 S h
    refine V_iload (pc := 146) C dL_isShown_146 10 rfl ?_
    refine V_aload (pc := 148) C dL_isShown_148 5 rfl ?_
    refine V_bipush (pc := 150) C (v := 6) dL_isShown_150 rfl ?_
    refine V_mld (pc := 152) C hT tb1_arr (n := 8) (c9 := 112) rfl rfl rfl h dL_isShown_152 (fun h => ?_)
    refine V_icmp_ge (pc := 153) (tgt := 206) C dL_isShown_153 (by decide) h (fun h => ?_) (fun h => ?_)
    · refine V_sub [0, 1, 2, 4, 6, 7, 8, 9] rfl ?_
      exact k_L_isShown_206 hT hl C hr hnm htab  h
    · refine V_iload (pc := 156) C dL_isShown_156 8 rfl ?_
      refine V_if_eq (pc := 158) (tgt := 206) C dL_isShown_158 (by decide) h (fun h => ?_) (fun h => ?_)
      · refine V_sub [0, 1, 2, 4, 6, 7, 8, 9] rfl ?_
        exact k_L_isShown_206 hT hl C hr hnm htab  h
      · refine V_aload (pc := 161) C dL_isShown_161 3 rfl ?_
        refine V_iload (pc := 163) C dL_isShown_163 10 rfl ?_
        refine V_dup2 (pc := 165) C dL_isShown_165 rfl rfl ?_
        refine V_mld (pc := 166) C hT tb1_arr (n := 48) (c9 := 110) rfl rfl rfl h dL_isShown_166 (fun h => ?_)
        refine V_aload (pc := 167) C dL_isShown_167 3 rfl ?_
        refine V_iload (pc := 169) C dL_isShown_169 10 rfl ?_
        refine V_mld (pc := 171) C hT tb1_arr (n := 48) (c9 := 110) rfl rfl rfl h dL_isShown_171 (fun h => ?_)
        refine V_bipush (pc := 172) C (v := 8) dL_isShown_172 rfl ?_
        refine V_irem (pc := 174) C dL_isShown_174 (by decide) ?_
        refine V_iload (pc := 175) C dL_isShown_175 6 rfl ?_
        refine V_icmp_ne (pc := 177) (tgt := 197) C dL_isShown_177 (by decide) h (fun h => ?_) (fun h => ?_)
        · refine V_sub [0, 1, 2, 3, 4, 5, 6, 7, 8, 9, 10] rfl ?_
          exact k_L_isShown_197 hT hl C hr hnm htab (fun h => ih h) h
        · refine V_aload (pc := 180) C dL_isShown_180 3 rfl ?_
          refine V_iload (pc := 182) C dL_isShown_182 10 rfl ?_
          refine V_mld (pc := 184) C hT tb1_arr (n := 48) (c9 := 110) rfl rfl rfl h dL_isShown_184 (fun h => ?_)
          refine V_sipush (pc := 185) C (v := 128) dL_isShown_185 rfl ?_
          refine V_icmp_ge (pc := 188) (tgt := 197) C dL_isShown_188 (by decide) h (fun h => ?_) (fun h => ?_)
          · refine V_sub [0, 1, 2, 3, 4, 5, 6, 7, 8, 9, 10] rfl ?_
            exact k_L_isShown_197 hT hl C hr hnm htab (fun h => ih h) h
          · refine V_sipush (pc := 191) C (v := 128) dL_isShown_191 rfl ?_
            refine V_goto (pc := 194) (tgt := 198) C dL_isShown_194 (by decide) ?_
            refine V_sub [0, 1, 2, 3, 4, 5, 6, 7, 8, 9, 10] rfl ?_
            exact k_L_isShown_198 hT hl C hr hnm htab (fun h => ih h) h
def w_L_isShown_143  (Q : Nat → Int32 → Sg → Prop) (x13 : Int32) (x14 : Int32) (x16 : Int32) (x17 : Int32) (S : Sg) : Prop := ∃ n9, w_L_isShown_146  Q n9 x13 x14 x16 x17 0 S
theorem k_L_isShown_143 (hT : xT X = tb1) (hl : l.stackTraces = false) (C : Cn X k0 p l R s m meth c cL_isShown RL 22 14 321) (hr : meth.sig.returnType = (some .boolean)) (hnm : meth.name = yL_isShown.name) (htab : (∀ x ∈ c.exceptionTable.toList, False))  {x13 : Int32} {x14 : Int32} {x16 : Int32} {x17 : Int32} {S : Sg} (h : w_L_isShown_143  Qa x13 x14 x16 x17 S) : V X p l e R s m args below meth c 22 (QM X below args s S0 ad0 rvI Qa) S0 ad0 S 143 [(0, Value.ref (enc 0 0)), (3, Value.ref (enc 13 6)), (4, Value.ref (enc 13 7)), (7, Value.ref (enc 13 10)), (8, Value.ref (enc 13 11)), (9, Value.ref (enc 13 12)), (13, Value.int x13), (14, Value.int x14), (16, Value.int x16), (17, Value.int x17)] [] := by
  refine V_iconst (pc := 143) C (v := 0) dL_isShown_143 rfl ?_
  refine V_istore (pc := 144) C dL_isShown_144 (by decide) rfl ?_
  refine V_sub [1, 2, 3, 4, 5, 6, 7, 8, 9, 10, 0] rfl ?_
  obtain ⟨n9, h⟩ := h
  exact k_L_isShown_146 hT hl C hr hnm htab  n9 h
def w_L_isShown_137 (k67 : Int32 → Int32 → Int32 → Int32 → Int32 → Sg → Prop) (Q : Nat → Int32 → Sg → Prop) (x13 : Int32) (x14 : Int32) (x16 : Int32) (x17 : Int32) (x18 : Int32) (S : Sg) : Prop := k67 x13 x14 x16 x17 (x18 + 1) S
theorem k_L_isShown_137 (hT : xT X = tb1) (hl : l.stackTraces = false) (C : Cn X k0 p l R s m meth c cL_isShown RL 22 14 321) (hr : meth.sig.returnType = (some .boolean)) (hnm : meth.name = yL_isShown.name) (htab : (∀ x ∈ c.exceptionTable.toList, False)) {k67 : Int32 → Int32 → Int32 → Int32 → Int32 → Sg → Prop} (hk67 : ∀ {x13 : Int32} {x14 : Int32} {x16 : Int32} {x17 : Int32} {x18 : Int32} {S : Sg}, k67 x13 x14 x16 x17 x18 S → V X p l e R s m args below meth c 22 (QM X below args s S0 ad0 rvI Qa) S0 ad0 S 67 [(0, Value.ref (enc 0 0)), (3, Value.ref (enc 13 6)), (4, Value.ref (enc 13 7)), (5, Value.ref (enc 13 8)), (6, Value.ref (enc 13 9)), (7, Value.ref (enc 13 10)), (8, Value.ref (enc 13 11)), (9, Value.ref (enc 13 12)), (13, Value.int x13), (14, Value.int x14), (16, Value.int x16), (17, Value.int x17), (18, Value.int x18)] []) {x13 : Int32} {x14 : Int32} {x16 : Int32} {x17 : Int32} {x18 : Int32} {S : Sg} (h : w_L_isShown_137 k67 Qa x13 x14 x16 x17 x18 S) : V X p l e R s m args below meth c 22 (QM X below args s S0 ad0 rvI Qa) S0 ad0 S 137 [(0, Value.ref (enc 0 0)), (3, Value.ref (enc 13 6)), (4, Value.ref (enc 13 7)), (5, Value.ref (enc 13 8)), (6, Value.ref (enc 13 9)), (7, Value.ref (enc 13 10)), (8, Value.ref (enc 13 11)), (9, Value.ref (enc 13 12)), (13, Value.int x13), (14, Value.int x14), (16, Value.int x16), (17, Value.int x17), (18, Value.int x18)] [] := by
  refine V_iinc (pc := 137) C (a := 12) (v := x18 + 1) dL_isShown_137 rfl rfl (by decide) rfl ?_
  refine V_goto (pc := 140) (tgt := 67) C dL_isShown_140 (by decide) ?_
  refine V_sub [1, 2, 3, 4, 5, 6, 7, 8, 9, 10, 11, 12, 0] rfl ?_
  exact hk67 h
def w_L_isShown_135 (k67 : Int32 → Int32 → Int32 → Int32 → Int32 → Sg → Prop) (Q : Nat → Int32 → Sg → Prop) (x13 : Int32) (x14 : Int32) (x16 : Int32) (x17 : Int32) (x18 : Int32) (y0 : Int32) (y1 : Int32) (y2 : Int32) (S : Sg) : Prop := (vp_in y2 64 ∧ (∀ S21, S21 = su S 108 (nt y2) (y1 + y0) → w_L_isShown_137 k67 Q x13 x14 x16 x17 x18 S21))
theorem k_L_isShown_135 (hT : xT X = tb1) (hl : l.stackTraces = false) (C : Cn X k0 p l R s m meth c cL_isShown RL 22 14 321) (hr : meth.sig.returnType = (some .boolean)) (hnm : meth.name = yL_isShown.name) (htab : (∀ x ∈ c.exceptionTable.toList, False)) {k67 : Int32 → Int32 → Int32 → Int32 → Int32 → Sg → Prop} (hk67 : ∀ {x13 : Int32} {x14 : Int32} {x16 : Int32} {x17 : Int32} {x18 : Int32} {S : Sg}, k67 x13 x14 x16 x17 x18 S → V X p l e R s m args below meth c 22 (QM X below args s S0 ad0 rvI Qa) S0 ad0 S 67 [(0, Value.ref (enc 0 0)), (3, Value.ref (enc 13 6)), (4, Value.ref (enc 13 7)), (5, Value.ref (enc 13 8)), (6, Value.ref (enc 13 9)), (7, Value.ref (enc 13 10)), (8, Value.ref (enc 13 11)), (9, Value.ref (enc 13 12)), (13, Value.int x13), (14, Value.int x14), (16, Value.int x16), (17, Value.int x17), (18, Value.int x18)] []) {x13 : Int32} {x14 : Int32} {x16 : Int32} {x17 : Int32} {x18 : Int32} {y0 : Int32} {y1 : Int32} {y2 : Int32} {S : Sg} (h : w_L_isShown_135 k67 Qa x13 x14 x16 x17 x18 y0 y1 y2 S) : V X p l e R s m args below meth c 22 (QM X below args s S0 ad0 rvI Qa) S0 ad0 S 135 [(0, Value.ref (enc 0 0)), (3, Value.ref (enc 13 6)), (4, Value.ref (enc 13 7)), (5, Value.ref (enc 13 8)), (6, Value.ref (enc 13 9)), (7, Value.ref (enc 13 10)), (8, Value.ref (enc 13 11)), (9, Value.ref (enc 13 12)), (13, Value.int x13), (14, Value.int x14), (16, Value.int x16), (17, Value.int x17), (18, Value.int x18)] [Value.int y0, Value.int y1, Value.int y2, Value.ref (enc 13 8)] := by
  refine V_iadd (pc := 135) C dL_isShown_135 ?_
  refine V_mst (pc := 136) C hT tb1_arr (n := 64) (c9 := 108) (by decide) rfl rfl rfl h dL_isShown_136 (fun h => V_nx fun S21 e9 => ?_)
  replace h := h S21 e9; clear e9
  refine V_sub [0, 1, 2, 3, 4, 5, 6, 7, 8, 9, 10, 11, 12] rfl ?_
  exact k_L_isShown_137 hT hl C hr hnm htab (fun h => hk67 h) h
def w_L_isShown_67  (Q : Nat → Int32 → Sg → Prop) : Nat → Int32 → Int32 → Int32 → Int32 → Int32 → Sg → Prop
  | 0, _, _, _, _, _, _ => False
  | n + 1, x13, x14, x16, x17, x18, S => (vp_in 7 8 ∧ (((S.1 112 (nt 7)) ≤ x18 → w_L_isShown_143  Q x13 x14 x16 x17 S) ∧ (¬ (S.1 112 (nt 7)) ≤ x18 → ((x16 = 0 → w_L_isShown_143  Q x13 x14 x16 x17 S) ∧ (¬ x16 = 0 → (vp_in x18 64 ∧ ((((S.1 108 (nt x18)) - (S.1 108 (nt x18)) / 8 * 8) = x13 → (vp_in x18 64 ∧ (∀ v22, v22 = x17 + (S.1 109 (nt x18)) → (vp_in x18 64 ∧ (∀ S23, S23 = su S 109 (nt x18) 0 → (vp_in x18 64 ∧ (vp_in x18 64 ∧ ((16384 ≤ (S23.1 108 (nt x18)) → w_L_isShown_135 (fun x13 x14 x16 x17 x18 S => w_L_isShown_67  Q n x13 x14 x16 x17 x18 S) Q x13 x14 x16 v22 x18 0 (S23.1 108 (nt x18)) x18 S23) ∧ (¬ 16384 ≤ (S23.1 108 (nt x18)) → w_L_isShown_135 (fun x13 x14 x16 x17 x18 S => w_L_isShown_67  Q n x13 x14 x16 x17 x18 S) Q x13 x14 x16 v22 x18 16384 (S23.1 108 (nt x18)) x18 S23))))))))) ∧ (¬ ((S.1 108 (nt x18)) - (S.1 108 (nt x18)) / 8 * 8) = x13 → w_L_isShown_137 (fun x13 x14 x16 x17 x18 S => w_L_isShown_67  Q n x13 x14 x16 x17 x18 S) Q x13 x14 x16 x17 x18 S))))))))
theorem k_L_isShown_67 (hT : xT X = tb1) (hl : l.stackTraces = false) (C : Cn X k0 p l R s m meth c cL_isShown RL 22 14 321) (hr : meth.sig.returnType = (some .boolean)) (hnm : meth.name = yL_isShown.name) (htab : (∀ x ∈ c.exceptionTable.toList, False))  : ∀ n {x13 : Int32} {x14 : Int32} {x16 : Int32} {x17 : Int32} {x18 : Int32} {S : Sg}, w_L_isShown_67  Qa n x13 x14 x16 x17 x18 S → V X p l e R s m args below meth c 22 (QM X below args s S0 ad0 rvI Qa) S0 ad0 S 67 [(0, Value.ref (enc 0 0)), (3, Value.ref (enc 13 6)), (4, Value.ref (enc 13 7)), (5, Value.ref (enc 13 8)), (6, Value.ref (enc 13 9)), (7, Value.ref (enc 13 10)), (8, Value.ref (enc 13 11)), (9, Value.ref (enc 13 12)), (13, Value.int x13), (14, Value.int x14), (16, Value.int x16), (17, Value.int x17), (18, Value.int x18)] [] := by
  intro n
  induction n with
  | zero => intro x13 x14 x16 x17 x18 S h; exact h.elim
  | succ n ih =>
    intro x13 x14 x16 x17 x18 S h
    refine V_iload (pc := 67) C dL_isShown_67 12 rfl ?_
    refine V_aload (pc := 69) C dL_isShown_69 7 rfl ?_
    refine V_bipush (pc := 71) C (v := 7) dL_isShown_71 rfl ?_
    refine V_mld (pc := 73) C hT tb1_arr (n := 8) (c9 := 112) rfl rfl rfl h dL_isShown_73 (fun h => ?_)
    refine V_icmp_ge (pc := 74) (tgt := 143) C dL_isShown_74 (by decide) h (fun h => ?_) (fun h => ?_)
    · refine V_sub [0, 1, 2, 5, 6, 7, 8, 9, 10, 11] rfl ?_
      exact k_L_isShown_143 hT hl C hr hnm htab  h
    · refine V_iload (pc := 77) C dL_isShown_77 10 rfl ?_
      refine V_if_eq (pc := 79) (tgt := 143) C dL_isShown_79 (by decide) h (fun h => ?_) (fun h => ?_)
      · refine V_sub [0, 1, 2, 5, 6, 7, 8, 9, 10, 11] rfl ?_
        exact k_L_isShown_143 hT hl C hr hnm htab  h
      · refine V_aload (pc := 82) C dL_isShown_82 3 rfl ?_
        refine V_iload (pc := 84) C dL_isShown_84 12 rfl ?_
        refine V_mld (pc := 86) C hT tb1_arr (n := 64) (c9 := 108) rfl rfl rfl h dL_isShown_86 (fun h => ?_)
        refine V_bipush (pc := 87) C (v := 8) dL_isShown_87 rfl ?_
        refine V_irem (pc := 89) C dL_isShown_89 (by decide) ?_
        refine V_iload (pc := 90) C dL_isShown_90 8 rfl ?_
        refine V_icmp_ne (pc := 92) (tgt := 137) C dL_isShown_92 (by decide) h (fun h => ?_) (fun h => ?_)
        · refine V_sub [0, 1, 2, 3, 4, 5, 6, 7, 8, 9, 10, 11, 12] rfl ?_
          exact k_L_isShown_137 hT hl C hr hnm htab (fun h => ih h) h
        · refine V_iload (pc := 95) C dL_isShown_95 11 rfl ?_
          refine V_aload (pc := 97) C dL_isShown_97 4 rfl ?_
          refine V_iload (pc := 99) C dL_isShown_99 12 rfl ?_
          refine V_mld (pc := 101) C hT tb1_arr (n := 64) (c9 := 109) rfl rfl rfl h dL_isShown_101 (fun h => ?_)
          refine V_iadd (pc := 102) C dL_isShown_102 ?_
          refine V_nI fun v22 e9 => ?_
          replace h := h v22 e9; clear e9
          refine V_istore (pc := 103) C dL_isShown_103 (by decide) rfl ?_
          refine V_aload (pc := 105) C dL_isShown_105 5 rfl ?_
          refine V_iload (pc := 107) C dL_isShown_107 12 rfl ?_
          refine V_iconst (pc := 109) C (v := 0) dL_isShown_109 rfl ?_
          refine V_mst (pc := 110) C hT tb1_arr (n := 64) (c9 := 109) (by decide) rfl rfl rfl h dL_isShown_110 (fun h => V_nx fun S23 e9 => ?_)
          replace h := h S23 e9; clear e9
          refine V_aload (pc := 111) C dL_isShown_111 4 rfl ?_
          refine V_iload (pc := 113) C dL_isShown_113 12 rfl ?_
          refine V_dup2 (pc := 115) C dL_isShown_115 rfl rfl ?_
          refine V_mld (pc := 116) C hT tb1_arr (n := 64) (c9 := 108) rfl rfl rfl h dL_isShown_116 (fun h => ?_)
          refine V_aload (pc := 117) C dL_isShown_117 4 rfl ?_
          refine V_iload (pc := 119) C dL_isShown_119 12 rfl ?_
          refine V_mld (pc := 121) C hT tb1_arr (n := 64) (c9 := 108) rfl rfl rfl h dL_isShown_121 (fun h => ?_)
          refine V_sipush (pc := 122) C (v := 16384) dL_isShown_122 rfl ?_
          refine V_icmp_ge (pc := 125) (tgt := 134) C dL_isShown_125 (by decide) h (fun h => ?_) (fun h => ?_)
          · refine V_iconst (pc := 134) C (v := 0) dL_isShown_134 rfl ?_
            refine V_sub [1, 2, 3, 4, 5, 6, 7, 8, 9, 10, 11, 0, 12] rfl ?_
            exact k_L_isShown_135 hT hl C hr hnm htab (fun h => ih h) h
          · refine V_sipush (pc := 128) C (v := 16384) dL_isShown_128 rfl ?_
            refine V_goto (pc := 131) (tgt := 135) C dL_isShown_131 (by decide) ?_
            refine V_sub [1, 2, 3, 4, 5, 6, 7, 8, 9, 10, 11, 0, 12] rfl ?_
            exact k_L_isShown_135 hT hl C hr hnm htab (fun h => ih h) h
def w_L_isShown_59  (Q : Nat → Int32 → Sg → Prop) (x13 : Int32) (x14 : Int32) (y0 : Int32) (S : Sg) : Prop := ∃ n9, w_L_isShown_67  Q n9 x13 x14 y0 0 0 S
theorem k_L_isShown_59 (hT : xT X = tb1) (hl : l.stackTraces = false) (C : Cn X k0 p l R s m meth c cL_isShown RL 22 14 321) (hr : meth.sig.returnType = (some .boolean)) (hnm : meth.name = yL_isShown.name) (htab : (∀ x ∈ c.exceptionTable.toList, False))  {x13 : Int32} {x14 : Int32} {y0 : Int32} {S : Sg} (h : w_L_isShown_59  Qa x13 x14 y0 S) : V X p l e R s m args below meth c 22 (QM X below args s S0 ad0 rvI Qa) S0 ad0 S 59 [(0, Value.ref (enc 0 0)), (3, Value.ref (enc 13 6)), (4, Value.ref (enc 13 7)), (5, Value.ref (enc 13 8)), (6, Value.ref (enc 13 9)), (7, Value.ref (enc 13 10)), (8, Value.ref (enc 13 11)), (9, Value.ref (enc 13 12)), (13, Value.int x13), (14, Value.int x14)] [Value.int y0] := by
  refine V_istore (pc := 59) C dL_isShown_59 (by decide) rfl ?_
  refine V_iconst (pc := 61) C (v := 0) dL_isShown_61 rfl ?_
  refine V_istore (pc := 62) C dL_isShown_62 (by decide) rfl ?_
  refine V_iconst (pc := 64) C (v := 0) dL_isShown_64 rfl ?_
  refine V_istore (pc := 65) C dL_isShown_65 (by decide) rfl ?_
  refine V_sub [3, 4, 5, 6, 7, 8, 9, 10, 11, 12, 2, 1, 0] rfl ?_
  obtain ⟨n9, h⟩ := h
  exact k_L_isShown_67 hT hl C hr hnm htab  n9 h
def w_L_isShown_42  (Q : Nat → Int32 → Sg → Prop) (x10 : Int32) (x11 : Int32) (x12 : Int32) (x13 : Int32) (x14 : Int32) (y0 : Int32) (S : Sg) : Prop := ((x10 = 0 → ((y0 = 0 → w_L_isShown_59  Q x13 x14 1 S) ∧ (¬ y0 = 0 → w_L_isShown_59  Q x13 x14 0 S))) ∧ (¬ x10 = 0 → ((x10 = 1 → ((y0 = 1 → w_L_isShown_341  Q x13 x14 1 S) ∧ (¬ y0 = 1 → w_L_isShown_341  Q x13 x14 0 S))) ∧ (¬ x10 = 1 → (((x12 - x12 / 9 * 9) = 0 → w_L_isShown_622  Q (((x12 / 9) - (x12 / 9) / 2 * 2) * 5001) S) ∧ (¬ (x12 - x12 / 9 * 9) = 0 → (((x11 - x11 / 3 * 3) = 0 → w_L_isShown_622  Q (1 + (x12 - x12 / 500 * 500)) S) ∧ (¬ (x11 - x11 / 3 * 3) = 0 → w_L_isShown_622  Q (1 + (x12 - x12 / 60 * 60)) S))))))))
theorem k_L_isShown_42 (hT : xT X = tb1) (hl : l.stackTraces = false) (C : Cn X k0 p l R s m meth c cL_isShown RL 22 14 321) (hr : meth.sig.returnType = (some .boolean)) (hnm : meth.name = yL_isShown.name) (htab : (∀ x ∈ c.exceptionTable.toList, False))  {x10 : Int32} {x11 : Int32} {x12 : Int32} {x13 : Int32} {x14 : Int32} {y0 : Int32} {S : Sg} (h : w_L_isShown_42  Qa x10 x11 x12 x13 x14 y0 S) : V X p l e R s m args below meth c 22 (QM X below args s S0 ad0 rvI Qa) S0 ad0 S 42 [(0, Value.ref (enc 0 0)), (1, Value.ref (enc 13 3)), (2, Value.ref (enc 13 4)), (3, Value.ref (enc 13 6)), (4, Value.ref (enc 13 7)), (5, Value.ref (enc 13 8)), (6, Value.ref (enc 13 9)), (7, Value.ref (enc 13 10)), (8, Value.ref (enc 13 11)), (9, Value.ref (enc 13 12)), (10, Value.int x10), (11, Value.int x11), (12, Value.int x12), (13, Value.int x13), (14, Value.int x14)] [Value.int y0] := by
  refine V_istore (pc := 42) C dL_isShown_42 (by decide) rfl ?_
  refine V_iload (pc := 44) C dL_isShown_44 11 rfl ?_
  refine V_if_ne (pc := 46) (tgt := 324) C dL_isShown_46 (by decide) h (fun h => ?_) (fun h => ?_)
  · refine V_iload (pc := 324) C dL_isShown_324 11 rfl ?_
    refine V_iconst (pc := 326) C (v := 1) dL_isShown_326 rfl ?_
    refine V_icmp_ne (pc := 327) (tgt := 575) C dL_isShown_327 (by decide) h (fun h => ?_) (fun h => ?_)
    · refine V_iload (pc := 575) C dL_isShown_575 13 rfl ?_
      refine V_bipush (pc := 577) C (v := 9) dL_isShown_577 rfl ?_
      refine V_irem (pc := 579) C dL_isShown_579 (by decide) ?_
      refine V_if_ne (pc := 580) (tgt := 597) C dL_isShown_580 (by decide) h (fun h => ?_) (fun h => ?_)
      · refine V_iload (pc := 597) C dL_isShown_597 12 rfl ?_
        refine V_iconst (pc := 599) C (v := 3) dL_isShown_599 rfl ?_
        refine V_irem (pc := 600) C dL_isShown_600 (by decide) ?_
        refine V_if_ne (pc := 601) (tgt := 615) C dL_isShown_601 (by decide) h (fun h => ?_) (fun h => ?_)
        · refine V_iconst (pc := 615) C (v := 1) dL_isShown_615 rfl ?_
          refine V_iload (pc := 616) C dL_isShown_616 13 rfl ?_
          refine V_bipush (pc := 618) C (v := 60) dL_isShown_618 rfl ?_
          refine V_irem (pc := 620) C dL_isShown_620 (by decide) ?_
          refine V_iadd (pc := 621) C dL_isShown_621 ?_
          refine V_sub [1, 2, 3, 4, 5, 6, 7, 8, 9, 10] rfl ?_
          exact k_L_isShown_622 hT hl C hr hnm htab  h
        · refine V_iconst (pc := 604) C (v := 1) dL_isShown_604 rfl ?_
          refine V_iload (pc := 605) C dL_isShown_605 13 rfl ?_
          refine V_sipush (pc := 607) C (v := 500) dL_isShown_607 rfl ?_
          refine V_irem (pc := 610) C dL_isShown_610 (by decide) ?_
          refine V_iadd (pc := 611) C dL_isShown_611 ?_
          refine V_goto (pc := 612) (tgt := 622) C dL_isShown_612 (by decide) ?_
          refine V_sub [1, 2, 3, 4, 5, 6, 7, 8, 9, 10] rfl ?_
          exact k_L_isShown_622 hT hl C hr hnm htab  h
      · refine V_iload (pc := 583) C dL_isShown_583 13 rfl ?_
        refine V_bipush (pc := 585) C (v := 9) dL_isShown_585 rfl ?_
        refine V_idiv (pc := 587) C dL_isShown_587 (by decide) ?_
        refine V_iconst (pc := 588) C (v := 2) dL_isShown_588 rfl ?_
        refine V_irem (pc := 589) C dL_isShown_589 (by decide) ?_
        refine V_sipush (pc := 590) C (v := 5001) dL_isShown_590 rfl ?_
        refine V_imul (pc := 593) C dL_isShown_593 ?_
        refine V_goto (pc := 594) (tgt := 622) C dL_isShown_594 (by decide) ?_
        refine V_sub [1, 2, 3, 4, 5, 6, 7, 8, 9, 10] rfl ?_
        exact k_L_isShown_622 hT hl C hr hnm htab  h
    · refine V_iload (pc := 330) C dL_isShown_330 0 rfl ?_
      refine V_iconst (pc := 332) C (v := 1) dL_isShown_332 rfl ?_
      refine V_icmp_ne (pc := 333) (tgt := 340) C dL_isShown_333 (by decide) h (fun h => ?_) (fun h => ?_)
      · refine V_iconst (pc := 340) C (v := 0) dL_isShown_340 rfl ?_
        refine V_sub [1, 2, 3, 4, 6, 7, 10, 14, 15] rfl ?_
        exact k_L_isShown_341 hT hl C hr hnm htab  h
      · refine V_iconst (pc := 336) C (v := 1) dL_isShown_336 rfl ?_
        refine V_goto (pc := 337) (tgt := 341) C dL_isShown_337 (by decide) ?_
        refine V_sub [1, 2, 3, 4, 6, 7, 10, 14, 15] rfl ?_
        exact k_L_isShown_341 hT hl C hr hnm htab  h
  · refine V_iload (pc := 49) C dL_isShown_49 0 rfl ?_
    refine V_if_ne (pc := 51) (tgt := 58) C dL_isShown_51 (by decide) h (fun h => ?_) (fun h => ?_)
    · refine V_iconst (pc := 58) C (v := 0) dL_isShown_58 rfl ?_
      refine V_sub [1, 4, 5, 6, 7, 8, 9, 10, 14, 15] rfl ?_
      exact k_L_isShown_59 hT hl C hr hnm htab  h
    · refine V_iconst (pc := 54) C (v := 1) dL_isShown_54 rfl ?_
      refine V_goto (pc := 55) (tgt := 59) C dL_isShown_55 (by decide) ?_
      refine V_sub [1, 4, 5, 6, 7, 8, 9, 10, 14, 15] rfl ?_
      exact k_L_isShown_59 hT hl C hr hnm htab  h
def w_L_isShown_25  (Q : Nat → Int32 → Sg → Prop) (x10 : Int32) (x11 : Int32) (x12 : Int32) (x13 : Int32) (y0 : Int32) (S : Sg) : Prop := ((y0 = 0 → w_L_isShown_42  Q x10 x11 x12 x13 y0 4 S) ∧ (¬ y0 = 0 → (w_L_state x13 S (fun k26 v25 S24 => (k26 = 0 → w_L_isShown_42  Q x10 x11 x12 x13 y0 v25 S24) ∧ (¬ k26 = 0 → Q k26 0 S24)))))
theorem k_L_isShown_25 (hT : xT X = tb1) (hl : l.stackTraces = false) (C : Cn X k0 p l R s m meth c cL_isShown RL 22 14 321) (hr : meth.sig.returnType = (some .boolean)) (hnm : meth.name = yL_isShown.name) (htab : (∀ x ∈ c.exceptionTable.toList, False))  {x10 : Int32} {x11 : Int32} {x12 : Int32} {x13 : Int32} {y0 : Int32} {S : Sg} (h : w_L_isShown_25  Qa x10 x11 x12 x13 y0 S) : V X p l e R s m args below meth c 22 (QM X below args s S0 ad0 rvI Qa) S0 ad0 S 25 [(0, Value.ref (enc 0 0)), (1, Value.ref (enc 13 3)), (2, Value.ref (enc 13 4)), (3, Value.ref (enc 13 6)), (4, Value.ref (enc 13 7)), (5, Value.ref (enc 13 8)), (6, Value.ref (enc 13 9)), (7, Value.ref (enc 13 10)), (8, Value.ref (enc 13 11)), (9, Value.ref (enc 13 12)), (10, Value.int x10), (11, Value.int x11), (12, Value.int x12), (13, Value.int x13)] [Value.int y0] := by
  refine V_istore (pc := 25) C dL_isShown_25 (by decide) rfl ?_
  refine V_iload (pc := 27) C dL_isShown_27 0 rfl ?_
  refine V_if_eq (pc := 29) (tgt := 41) C dL_isShown_29 (by decide) h (fun h => ?_) (fun h => ?_)
  · refine V_iconst (pc := 41) C (v := 4) dL_isShown_41 rfl ?_
    refine V_sub [1, 2, 3, 4, 5, 6, 7, 8, 9, 10, 11, 12, 13, 14, 0] rfl ?_
    exact k_L_isShown_42 hT hl C hr hnm htab  h
  · refine V_aload_n (pc := 32) C dL_isShown_32 rfl 4 rfl ?_
    refine V_iload (pc := 33) C dL_isShown_33 14 rfl ?_
    refine V_callS (pc := 35) C (ct_L_state hT hl h) g794 g795 g796 g32 ⟨by decide, by decide, pl_L_state⟩ ⟨by decide, by decide⟩ (rest := []) rfl (le8 rfl) dL_isShown_35 (fun v25 S24 h => ?_) (fun k9 S9 hk h => VX_out C htab hk (h.2 (by omega)))
    replace h := h.1 rfl
    refine V_st (st' := [Value.int v25]) rfl ?_
    refine V_goto (pc := 38) (tgt := 42) C dL_isShown_38 (by decide) ?_
    refine V_sub [1, 2, 3, 4, 5, 6, 7, 8, 9, 10, 11, 12, 13, 14, 0] rfl ?_
    exact k_L_isShown_42 hT hl C hr hnm htab  h
def w_L_isShown (a10 : Int32) (a11 : Int32) (a12 : Int32) (S : Sg) (Q : Nat → Int32 → Sg → Prop) : Prop := (vp_in 5 8 ∧ (¬ ((S.1 112 (nt 5)) + 1) = 0 ∧ (∀ v27, v27 = a11 - a11 / ((S.1 112 (nt 5)) + 1) * ((S.1 112 (nt 5)) + 1) → (vp_in 5 8 ∧ (((S.1 112 (nt 5)) ≤ v27 → w_L_isShown_25  Q a10 a11 a12 v27 0 S) ∧ (¬ (S.1 112 (nt 5)) ≤ v27 → w_L_isShown_25  Q a10 a11 a12 v27 1 S))))))
theorem ct_L_isShown (hT : xT X = tb1) (hl : l.stackTraces = false) {a10 : Int32} {a11 : Int32} {a12 : Int32} {S : Sg} (h : w_L_isShown a10 a11 a12 S Qa) : CT X k0 l yL_isShown cL_isShown 22 (some .boolean) 14 321 [Value.ref (enc 0 0), Value.ref (enc 13 3), Value.ref (enc 13 4), Value.ref (enc 13 6), Value.ref (enc 13 7), Value.ref (enc 13 8), Value.ref (enc 13 9), Value.ref (enc 13 10), Value.ref (enc 13 11), Value.ref (enc 13 12), Value.int a10, Value.int a11, Value.int a12] rvI S Qa :=
  CT_ofV (own := RL) (by decide +kernel) (le8 rfl) rfl hl fun p e R s m args below meth c ad0 C hr hnm htab => by
    refine V_iload (pc := 0) C dL_isShown_0 11 rfl ?_
    refine V_aload (pc := 2) C dL_isShown_2 9 rfl ?_
    refine V_iconst (pc := 4) C (v := 5) dL_isShown_4 rfl ?_
    refine V_mld (pc := 5) C hT tb1_arr (n := 8) (c9 := 112) rfl rfl rfl h dL_isShown_5 (fun h => ?_)
    refine V_iconst (pc := 6) C (v := 1) dL_isShown_6 rfl ?_
    refine V_iadd (pc := 7) C dL_isShown_7 ?_
    refine V_irem (pc := 8) C dL_isShown_8 h.1 ?_
    replace h := h.2
    refine V_nI fun v27 e9 => ?_
    replace h := h v27 e9; clear e9
    refine V_istore (pc := 9) C dL_isShown_9 (by decide) rfl ?_
    refine V_iload (pc := 11) C dL_isShown_11 0 rfl ?_
    refine V_aload (pc := 13) C dL_isShown_13 10 rfl ?_
    refine V_iconst (pc := 15) C (v := 5) dL_isShown_15 rfl ?_
    refine V_mld (pc := 16) C hT tb1_arr (n := 8) (c9 := 112) rfl rfl rfl h dL_isShown_16 (fun h => ?_)
    refine V_icmp_ge (pc := 17) (tgt := 24) C dL_isShown_17 (by decide) h (fun h => ?_) (fun h => ?_)
    · refine V_iconst (pc := 24) C (v := 0) dL_isShown_24 rfl ?_
      refine V_sub [1, 2, 3, 4, 5, 6, 7, 8, 9, 10, 11, 12, 13, 0] rfl ?_
      exact k_L_isShown_25 hT hl C hr hnm htab  h
    · refine V_iconst (pc := 20) C (v := 1) dL_isShown_20 rfl ?_
      refine V_goto (pc := 21) (tgt := 25) C dL_isShown_21 (by decide) ?_
      refine V_sub [1, 2, 3, 4, 5, 6, 7, 8, 9, 10, 11, 12, 13, 0] rfl ?_
      exact k_L_isShown_25 hT hl C hr hnm htab  h
end LB84
