section LB83
variable {X : Cx} {p : Program} {l : Launch} {e : Env} {R : Room} {s : State} {m : MethodId} {args : Array Value} {below : List Frame} {meth : Method} {c : Code} {S0 : Sg} {ad0 : Nat → Nat} {Qa : Nat → Int32 → Sg → Prop}
theorem pl_L_isSeat : (parseMethodDescriptor yL_isSeat.desc).map (fun d => d.parameters.length) = some 13 := by decide +kernel
def w_L_isSeat_1850  (Q : Nat → Int32 → Sg → Prop) (y0 : Int32) (y1 : Int32) (S : Sg) : Prop := ((y1 = y0 → Q 0 1 S) ∧ (¬ y1 = y0 → Q 0 0 S))
theorem k_L_isSeat_1850 (hT : xT X = tb1) (hl : l.stackTraces = false) (C : Cn X k0 p l R s m meth c cL_isSeat RL 33 14 321) (hr : meth.sig.returnType = (some .boolean)) (hnm : meth.name = yL_isSeat.name) (htab : (∀ x ∈ c.exceptionTable.toList, False))  {y0 : Int32} {y1 : Int32} {S : Sg} (h : w_L_isSeat_1850  Qa y0 y1 S) : V X p l e R s m args below meth c 33 (QM X below args s S0 ad0 rvI Qa) S0 ad0 S 1850 [] [Value.int y0, Value.int y1] := by
  refine V_icmp_ne (pc := 1850) (tgt := 1857) C dL_isSeat_1850 (by decide) h (fun h => ?_) (fun h => ?_)
  · refine V_iconst (pc := 1857) C (v := 0) dL_isSeat_1857 rfl ?_
    exact V_zret (pc := 1858) C hr (by decide) rfl h dL_isSeat_1858
  · refine V_iconst (pc := 1853) C (v := 1) dL_isSeat_1853 rfl ?_
    refine V_goto (pc := 1854) (tgt := 1858) C dL_isSeat_1854 (by decide) ?_
    exact V_zret (pc := 1858) C hr (by decide) rfl h dL_isSeat_1858
def w_L_isSeat_1811  (Q : Nat → Int32 → Sg → Prop) (x14 : Int32) (x19 : Int32) (x28 : Int32) (x29 : Int32) (y0 : Int32) (y1 : Int32) (y2 : Int32) (y3 : Int32) (S : Sg) : Prop := (w_L_does y3 y2 y1 y0 0 0 S (fun k3 v2 S1 => (k3 = 0 → ((x14 = 0 → w_L_isSeat_1850  Q (-3000000) v2 S1) ∧ (¬ x14 = 0 → ((x19 = 121 → w_L_isSeat_1850  Q (-2000000) v2 S1) ∧ (¬ x19 = 121 → ((x28 = 0 → w_L_isSeat_1850  Q (-1000000) v2 S1) ∧ (¬ x28 = 0 → w_L_isSeat_1850  Q x29 v2 S1))))))) ∧ (¬ k3 = 0 → Q k3 0 S1)))
theorem k_L_isSeat_1811 (hT : xT X = tb1) (hl : l.stackTraces = false) (C : Cn X k0 p l R s m meth c cL_isSeat RL 33 14 321) (hr : meth.sig.returnType = (some .boolean)) (hnm : meth.name = yL_isSeat.name) (htab : (∀ x ∈ c.exceptionTable.toList, False))  {x14 : Int32} {x19 : Int32} {x28 : Int32} {x29 : Int32} {y0 : Int32} {y1 : Int32} {y2 : Int32} {y3 : Int32} {S : Sg} (h : w_L_isSeat_1811  Qa x14 x19 x28 x29 y0 y1 y2 y3 S) : V X p l e R s m args below meth c 33 (QM X below args s S0 ad0 rvI Qa) S0 ad0 S 1811 [(14, Value.int x14), (19, Value.int x19), (28, Value.int x28), (29, Value.int x29)] [Value.int y0, Value.int y1, Value.int y2, Value.int y3, Value.ref (enc 0 0)] := by
  refine V_iconst (pc := 1811) C (v := 0) dL_isSeat_1811 rfl ?_
  refine V_iconst (pc := 1812) C (v := 0) dL_isSeat_1812 rfl ?_
  refine V_callH (pc := 1813) C (ct_L_does hT hl h) g119 g120 g121 g32 ⟨by decide, by decide, pl_L_does⟩ ⟨by decide, by decide⟩ (rest := []) rfl (le8 rfl) dL_isSeat_1813 (fun v2 S1 h => ?_) (fun k9 S9 hk h => VX_out C htab hk (h.2 (by omega)))
  replace h := h.1 rfl
  refine V_st (st' := [Value.int v2]) rfl ?_
  refine V_iload (pc := 1816) C dL_isSeat_1816 0 rfl ?_
  refine V_if_ne (pc := 1818) (tgt := 1826) C dL_isSeat_1818 (by decide) h (fun h => ?_) (fun h => ?_)
  · refine V_iload (pc := 1826) C dL_isSeat_1826 1 rfl ?_
    refine V_bipush (pc := 1828) C (v := 121) dL_isSeat_1828 rfl ?_
    refine V_icmp_ne (pc := 1830) (tgt := 1838) C dL_isSeat_1830 (by decide) h (fun h => ?_) (fun h => ?_)
    · refine V_iload (pc := 1838) C dL_isSeat_1838 2 rfl ?_
      refine V_if_eq (pc := 1840) (tgt := 1848) C dL_isSeat_1840 (by decide) h (fun h => ?_) (fun h => ?_)
      · refine V_ldc (pc := 1848) C g781 dL_isSeat_1848 ?_
        refine V_sub [] rfl ?_
        exact k_L_isSeat_1850 hT hl C hr hnm htab  h
      · refine V_iload (pc := 1843) C dL_isSeat_1843 3 rfl ?_
        refine V_goto (pc := 1845) (tgt := 1850) C dL_isSeat_1845 (by decide) ?_
        refine V_sub [] rfl ?_
        exact k_L_isSeat_1850 hT hl C hr hnm htab  h
    · refine V_ldc (pc := 1833) C g780 dL_isSeat_1833 ?_
      refine V_goto (pc := 1835) (tgt := 1850) C dL_isSeat_1835 (by decide) ?_
      refine V_sub [] rfl ?_
      exact k_L_isSeat_1850 hT hl C hr hnm htab  h
  · refine V_ldc (pc := 1821) C g779 dL_isSeat_1821 ?_
    refine V_goto (pc := 1823) (tgt := 1850) C dL_isSeat_1823 (by decide) ?_
    refine V_sub [] rfl ?_
    exact k_L_isSeat_1850 hT hl C hr hnm htab  h
def w_L_isSeat_1794  (Q : Nat → Int32 → Sg → Prop) (x13 : Int32) (x14 : Int32) (x19 : Int32) (x25 : Int32) (x28 : Int32) (x29 : Int32) (S : Sg) : Prop := ((x25 = 0 → w_L_isSeat_1811  Q x14 x19 x28 x29 0 x19 x13 15 S) ∧ (¬ x25 = 0 → w_L_isSeat_1811  Q x14 x19 x28 x29 1 x19 x13 15 S))
theorem k_L_isSeat_1794 (hT : xT X = tb1) (hl : l.stackTraces = false) (C : Cn X k0 p l R s m meth c cL_isSeat RL 33 14 321) (hr : meth.sig.returnType = (some .boolean)) (hnm : meth.name = yL_isSeat.name) (htab : (∀ x ∈ c.exceptionTable.toList, False))  {x13 : Int32} {x14 : Int32} {x19 : Int32} {x25 : Int32} {x28 : Int32} {x29 : Int32} {S : Sg} (h : w_L_isSeat_1794  Qa x13 x14 x19 x25 x28 x29 S) : V X p l e R s m args below meth c 33 (QM X below args s S0 ad0 rvI Qa) S0 ad0 S 1794 [(0, Value.ref (enc 0 0)), (13, Value.int x13), (14, Value.int x14), (19, Value.int x19), (25, Value.int x25), (28, Value.int x28), (29, Value.int x29)] [] := by
  refine V_aload_n (pc := 1794) C dL_isSeat_1794 rfl 0 rfl ?_
  refine V_bipush (pc := 1795) C (v := 15) dL_isSeat_1795 rfl ?_
  refine V_iload (pc := 1797) C dL_isSeat_1797 1 rfl ?_
  refine V_iload (pc := 1799) C dL_isSeat_1799 3 rfl ?_
  refine V_iload (pc := 1801) C dL_isSeat_1801 4 rfl ?_
  refine V_if_eq (pc := 1803) (tgt := 1810) C dL_isSeat_1803 (by decide) h (fun h => ?_) (fun h => ?_)
  · refine V_iconst (pc := 1810) C (v := 0) dL_isSeat_1810 rfl ?_
    refine V_sub [2, 3, 5, 6] rfl ?_
    exact k_L_isSeat_1811 hT hl C hr hnm htab  h
  · refine V_iconst (pc := 1806) C (v := 1) dL_isSeat_1806 rfl ?_
    refine V_goto (pc := 1807) (tgt := 1811) C dL_isSeat_1807 (by decide) ?_
    refine V_sub [2, 3, 5, 6] rfl ?_
    exact k_L_isSeat_1811 hT hl C hr hnm htab  h
def w_L_isSeat_1792  (Q : Nat → Int32 → Sg → Prop) (x13 : Int32) (x14 : Int32) (x19 : Int32) (x25 : Int32) (x28 : Int32) (x29 : Int32) (y0 : Int32) (y1 : Int32) (y2 : Int32) (S : Sg) : Prop := (vp_in y2 50 ∧ (∀ S4, S4 = su S 111 (nt y2) (y1 + y0) → w_L_isSeat_1794  Q x13 x14 x19 x25 x28 x29 S4))
theorem k_L_isSeat_1792 (hT : xT X = tb1) (hl : l.stackTraces = false) (C : Cn X k0 p l R s m meth c cL_isSeat RL 33 14 321) (hr : meth.sig.returnType = (some .boolean)) (hnm : meth.name = yL_isSeat.name) (htab : (∀ x ∈ c.exceptionTable.toList, False))  {x13 : Int32} {x14 : Int32} {x19 : Int32} {x25 : Int32} {x28 : Int32} {x29 : Int32} {y0 : Int32} {y1 : Int32} {y2 : Int32} {S : Sg} (h : w_L_isSeat_1792  Qa x13 x14 x19 x25 x28 x29 y0 y1 y2 S) : V X p l e R s m args below meth c 33 (QM X below args s S0 ad0 rvI Qa) S0 ad0 S 1792 [(0, Value.ref (enc 0 0)), (13, Value.int x13), (14, Value.int x14), (19, Value.int x19), (25, Value.int x25), (28, Value.int x28), (29, Value.int x29)] [Value.int y0, Value.int y1, Value.int y2, Value.ref (enc 13 11)] := by
  refine V_iadd (pc := 1792) C dL_isSeat_1792 ?_
  refine V_mst (pc := 1793) C hT tb1_arr (n := 50) (c9 := 111) (by decide) rfl rfl rfl h dL_isSeat_1793 (fun h => V_nx fun S4 e9 => ?_)
  replace h := h S4 e9; clear e9
  refine V_sub [0, 1, 2, 3, 4, 5, 6] rfl ?_
  exact k_L_isSeat_1794 hT hl C hr hnm htab  h
def w_L_isSeat_1766  (Q : Nat → Int32 → Sg → Prop) (x13 : Int32) (x14 : Int32) (x19 : Int32) (x25 : Int32) (x28 : Int32) (x29 : Int32) (S : Sg) : Prop := ((x25 = 0 → w_L_isSeat_1792  Q x13 x14 x19 x25 x28 x29 0 (1 + x19) ((10 * x13) + x29) S) ∧ (¬ x25 = 0 → w_L_isSeat_1792  Q x13 x14 x19 x25 x28 x29 128 (1 + x19) ((10 * x13) + x29) S))
theorem k_L_isSeat_1766 (hT : xT X = tb1) (hl : l.stackTraces = false) (C : Cn X k0 p l R s m meth c cL_isSeat RL 33 14 321) (hr : meth.sig.returnType = (some .boolean)) (hnm : meth.name = yL_isSeat.name) (htab : (∀ x ∈ c.exceptionTable.toList, False))  {x13 : Int32} {x14 : Int32} {x19 : Int32} {x25 : Int32} {x28 : Int32} {x29 : Int32} {S : Sg} (h : w_L_isSeat_1766  Qa x13 x14 x19 x25 x28 x29 S) : V X p l e R s m args below meth c 33 (QM X below args s S0 ad0 rvI Qa) S0 ad0 S 1766 [(0, Value.ref (enc 0 0)), (8, Value.ref (enc 13 11)), (13, Value.int x13), (14, Value.int x14), (19, Value.int x19), (25, Value.int x25), (28, Value.int x28), (29, Value.int x29)] [] := by
  refine V_aload (pc := 1766) C dL_isSeat_1766 1 rfl ?_
  refine V_bipush (pc := 1768) C (v := 10) dL_isSeat_1768 rfl ?_
  refine V_iload (pc := 1770) C dL_isSeat_1770 2 rfl ?_
  refine V_imul (pc := 1772) C dL_isSeat_1772 ?_
  refine V_iload (pc := 1773) C dL_isSeat_1773 7 rfl ?_
  refine V_iadd (pc := 1775) C dL_isSeat_1775 ?_
  refine V_iconst (pc := 1776) C (v := 1) dL_isSeat_1776 rfl ?_
  refine V_iload (pc := 1777) C dL_isSeat_1777 4 rfl ?_
  refine V_iadd (pc := 1779) C dL_isSeat_1779 ?_
  refine V_iload (pc := 1780) C dL_isSeat_1780 5 rfl ?_
  refine V_if_eq (pc := 1782) (tgt := 1791) C dL_isSeat_1782 (by decide) h (fun h => ?_) (fun h => ?_)
  · refine V_iconst (pc := 1791) C (v := 0) dL_isSeat_1791 rfl ?_
    refine V_sub [0, 2, 3, 4, 5, 6, 7] rfl ?_
    exact k_L_isSeat_1792 hT hl C hr hnm htab  h
  · refine V_sipush (pc := 1785) C (v := 128) dL_isSeat_1785 rfl ?_
    refine V_goto (pc := 1788) (tgt := 1792) C dL_isSeat_1788 (by decide) ?_
    refine V_sub [0, 2, 3, 4, 5, 6, 7] rfl ?_
    exact k_L_isSeat_1792 hT hl C hr hnm htab  h
def w_L_isSeat_1707  (Q : Nat → Int32 → Sg → Prop) : Nat → Int32 → Int32 → Int32 → Int32 → Int32 → Int32 → Sg → Prop
  | 0, _, _, _, _, _, _, _ => False
  | n + 1, x13, x14, x19, x25, x28, x29, S => ((x25 = 0 → w_L_isSeat_1766  Q x13 x14 x19 x25 x28 x29 S) ∧ (¬ x25 = 0 → ((x29 ≤ 0 → w_L_isSeat_1766  Q x13 x14 x19 x25 x28 x29 S) ∧ (¬ x29 ≤ 0 → (vp_in (((10 * x13) + x29) - 1) 50 ∧ ((129 ≤ (S.1 111 (nt (((10 * x13) + x29) - 1))) → w_L_isSeat_1766  Q x13 x14 x19 x25 x28 x29 S) ∧ (¬ 129 ≤ (S.1 111 (nt (((10 * x13) + x29) - 1))) → (vp_in (((10 * x13) + x29) - 1) 50 ∧ (vp_in ((10 * x13) + x29) 50 ∧ (∀ S5, S5 = su S 111 (nt ((10 * x13) + x29)) (S.1 111 (nt (((10 * x13) + x29) - 1))) → w_L_isSeat_1707  Q n x13 x14 x19 x25 x28 (x29 + (-1)) S5))))))))))
theorem k_L_isSeat_1707 (hT : xT X = tb1) (hl : l.stackTraces = false) (C : Cn X k0 p l R s m meth c cL_isSeat RL 33 14 321) (hr : meth.sig.returnType = (some .boolean)) (hnm : meth.name = yL_isSeat.name) (htab : (∀ x ∈ c.exceptionTable.toList, False))  : ∀ n {x13 : Int32} {x14 : Int32} {x19 : Int32} {x25 : Int32} {x28 : Int32} {x29 : Int32} {S : Sg}, w_L_isSeat_1707  Qa n x13 x14 x19 x25 x28 x29 S → V X p l e R s m args below meth c 33 (QM X below args s S0 ad0 rvI Qa) S0 ad0 S 1707 [(0, Value.ref (enc 0 0)), (8, Value.ref (enc 13 11)), (13, Value.int x13), (14, Value.int x14), (19, Value.int x19), (25, Value.int x25), (28, Value.int x28), (29, Value.int x29)] [] := by
  intro n
  induction n with
  | zero => intro x13 x14 x19 x25 x28 x29 S h; exact h.elim
  | succ n ih =>
    intro x13 x14 x19 x25 x28 x29 S h
    refine V_iload (pc := 1707) C dL_isSeat_1707 5 rfl ?_
    refine V_if_eq (pc := 1709) (tgt := 1766) C dL_isSeat_1709 (by decide) h (fun h => ?_) (fun h => ?_)
    · refine V_sub [0, 1, 2, 3, 4, 5, 6, 7] rfl ?_
      exact k_L_isSeat_1766 hT hl C hr hnm htab  h
    · refine V_iload (pc := 1712) C dL_isSeat_1712 7 rfl ?_
      refine V_if_le (pc := 1714) (tgt := 1766) C dL_isSeat_1714 (by decide) h (fun h => ?_) (fun h => ?_)
      · refine V_sub [0, 1, 2, 3, 4, 5, 6, 7] rfl ?_
        exact k_L_isSeat_1766 hT hl C hr hnm htab  h
      · refine V_aload (pc := 1717) C dL_isSeat_1717 1 rfl ?_
        refine V_bipush (pc := 1719) C (v := 10) dL_isSeat_1719 rfl ?_
        refine V_iload (pc := 1721) C dL_isSeat_1721 2 rfl ?_
        refine V_imul (pc := 1723) C dL_isSeat_1723 ?_
        refine V_iload (pc := 1724) C dL_isSeat_1724 7 rfl ?_
        refine V_iadd (pc := 1726) C dL_isSeat_1726 ?_
        refine V_iconst (pc := 1727) C (v := 1) dL_isSeat_1727 rfl ?_
        refine V_isub (pc := 1728) C dL_isSeat_1728 ?_
        refine V_mld (pc := 1729) C hT tb1_arr (n := 50) (c9 := 111) rfl rfl rfl h dL_isSeat_1729 (fun h => ?_)
        refine V_sipush (pc := 1730) C (v := 129) dL_isSeat_1730 rfl ?_
        refine V_icmp_ge (pc := 1733) (tgt := 1766) C dL_isSeat_1733 (by decide) h (fun h => ?_) (fun h => ?_)
        · refine V_sub [0, 1, 2, 3, 4, 5, 6, 7] rfl ?_
          exact k_L_isSeat_1766 hT hl C hr hnm htab  h
        · refine V_aload (pc := 1736) C dL_isSeat_1736 1 rfl ?_
          refine V_bipush (pc := 1738) C (v := 10) dL_isSeat_1738 rfl ?_
          refine V_iload (pc := 1740) C dL_isSeat_1740 2 rfl ?_
          refine V_imul (pc := 1742) C dL_isSeat_1742 ?_
          refine V_iload (pc := 1743) C dL_isSeat_1743 7 rfl ?_
          refine V_iadd (pc := 1745) C dL_isSeat_1745 ?_
          refine V_aload (pc := 1746) C dL_isSeat_1746 1 rfl ?_
          refine V_bipush (pc := 1748) C (v := 10) dL_isSeat_1748 rfl ?_
          refine V_iload (pc := 1750) C dL_isSeat_1750 2 rfl ?_
          refine V_imul (pc := 1752) C dL_isSeat_1752 ?_
          refine V_iload (pc := 1753) C dL_isSeat_1753 7 rfl ?_
          refine V_iadd (pc := 1755) C dL_isSeat_1755 ?_
          refine V_iconst (pc := 1756) C (v := 1) dL_isSeat_1756 rfl ?_
          refine V_isub (pc := 1757) C dL_isSeat_1757 ?_
          refine V_mld (pc := 1758) C hT tb1_arr (n := 50) (c9 := 111) rfl rfl rfl h dL_isSeat_1758 (fun h => ?_)
          refine V_mst (pc := 1759) C hT tb1_arr (n := 50) (c9 := 111) (by decide) rfl rfl rfl h dL_isSeat_1759 (fun h => V_nx fun S5 e9 => ?_)
          replace h := h S5 e9; clear e9
          refine V_iinc (pc := 1760) C (a := 7) (v := x29 + (-1)) dL_isSeat_1760 rfl rfl (by decide) rfl ?_
          refine V_goto (pc := 1763) (tgt := 1707) C dL_isSeat_1763 (by decide) ?_
          refine V_sub [1, 2, 3, 4, 5, 6, 7, 0] rfl ?_
          exact ih h
def w_L_isSeat_1696  (Q : Nat → Int32 → Sg → Prop) (x13 : Int32) (x14 : Int32) (x19 : Int32) (x25 : Int32) (x27 : Int32) (y0 : Int32) (S : Sg) : Prop := ((y0 = 0 → w_L_isSeat_1794  Q x13 x14 x19 x25 y0 x27 S) ∧ (¬ y0 = 0 → ∃ n9, w_L_isSeat_1707  Q n9 x13 x14 x19 x25 y0 x27 S))
theorem k_L_isSeat_1696 (hT : xT X = tb1) (hl : l.stackTraces = false) (C : Cn X k0 p l R s m meth c cL_isSeat RL 33 14 321) (hr : meth.sig.returnType = (some .boolean)) (hnm : meth.name = yL_isSeat.name) (htab : (∀ x ∈ c.exceptionTable.toList, False))  {x13 : Int32} {x14 : Int32} {x19 : Int32} {x25 : Int32} {x27 : Int32} {y0 : Int32} {S : Sg} (h : w_L_isSeat_1696  Qa x13 x14 x19 x25 x27 y0 S) : V X p l e R s m args below meth c 33 (QM X below args s S0 ad0 rvI Qa) S0 ad0 S 1696 [(0, Value.ref (enc 0 0)), (8, Value.ref (enc 13 11)), (13, Value.int x13), (14, Value.int x14), (19, Value.int x19), (25, Value.int x25), (27, Value.int x27)] [Value.int y0] := by
  refine V_istore (pc := 1696) C dL_isSeat_1696 (by decide) rfl ?_
  refine V_iload (pc := 1698) C dL_isSeat_1698 7 rfl ?_
  refine V_istore (pc := 1700) C dL_isSeat_1700 (by decide) rfl ?_
  refine V_iload (pc := 1702) C dL_isSeat_1702 1 rfl ?_
  refine V_if_eq (pc := 1704) (tgt := 1794) C dL_isSeat_1704 (by decide) h (fun h => ?_) (fun h => ?_)
  · refine V_sub [2, 4, 5, 6, 7, 1, 0] rfl ?_
    exact k_L_isSeat_1794 hT hl C hr hnm htab  h
  · refine V_sub [2, 3, 4, 5, 6, 7, 1, 0] rfl ?_
    obtain ⟨n9, h⟩ := h
    exact k_L_isSeat_1707 hT hl C hr hnm htab  n9 h
def w_L_isSeat_1695  (Q : Nat → Int32 → Sg → Prop) (x13 : Int32) (x14 : Int32) (x19 : Int32) (x25 : Int32) (x27 : Int32) (S : Sg) : Prop := w_L_isSeat_1696  Q x13 x14 x19 x25 x27 0 S
theorem k_L_isSeat_1695 (hT : xT X = tb1) (hl : l.stackTraces = false) (C : Cn X k0 p l R s m meth c cL_isSeat RL 33 14 321) (hr : meth.sig.returnType = (some .boolean)) (hnm : meth.name = yL_isSeat.name) (htab : (∀ x ∈ c.exceptionTable.toList, False))  {x13 : Int32} {x14 : Int32} {x19 : Int32} {x25 : Int32} {x27 : Int32} {S : Sg} (h : w_L_isSeat_1695  Qa x13 x14 x19 x25 x27 S) : V X p l e R s m args below meth c 33 (QM X below args s S0 ad0 rvI Qa) S0 ad0 S 1695 [(0, Value.ref (enc 0 0)), (8, Value.ref (enc 13 11)), (13, Value.int x13), (14, Value.int x14), (19, Value.int x19), (25, Value.int x25), (27, Value.int x27)] [] := by
  refine V_iconst (pc := 1695) C (v := 0) dL_isSeat_1695 rfl ?_
  refine V_sub [0, 1, 2, 3, 4, 5, 6] rfl ?_
  exact k_L_isSeat_1696 hT hl C hr hnm htab  h
def w_L_isSeat_1663  (Q : Nat → Int32 → Sg → Prop) (x13 : Int32) (x14 : Int32) (x19 : Int32) (x22 : Int32) (x25 : Int32) (x26 : Int32) (y0 : Int32) (S : Sg) : Prop := ((y0 = 9 → Q 0 1 S) ∧ (¬ y0 = 9 → ((x26 = 0 → w_L_isSeat_1695  Q x13 x14 x19 x25 y0 S) ∧ (¬ x26 = 0 → ((121 ≤ x19 → w_L_isSeat_1695  Q x13 x14 x19 x25 y0 S) ∧ (¬ 121 ≤ x19 → ((x22 = 0 → w_L_isSeat_1695  Q x13 x14 x19 x25 y0 S) ∧ (¬ x22 = 0 → w_L_isSeat_1696  Q x13 x14 x19 x25 y0 1 S))))))))
theorem k_L_isSeat_1663 (hT : xT X = tb1) (hl : l.stackTraces = false) (C : Cn X k0 p l R s m meth c cL_isSeat RL 33 14 321) (hr : meth.sig.returnType = (some .boolean)) (hnm : meth.name = yL_isSeat.name) (htab : (∀ x ∈ c.exceptionTable.toList, False))  {x13 : Int32} {x14 : Int32} {x19 : Int32} {x22 : Int32} {x25 : Int32} {x26 : Int32} {y0 : Int32} {S : Sg} (h : w_L_isSeat_1663  Qa x13 x14 x19 x22 x25 x26 y0 S) : V X p l e R s m args below meth c 33 (QM X below args s S0 ad0 rvI Qa) S0 ad0 S 1663 [(0, Value.ref (enc 0 0)), (8, Value.ref (enc 13 11)), (13, Value.int x13), (14, Value.int x14), (19, Value.int x19), (22, Value.int x22), (25, Value.int x25), (26, Value.int x26)] [Value.int y0] := by
  refine V_istore (pc := 1663) C dL_isSeat_1663 (by decide) rfl ?_
  refine V_iload (pc := 1665) C dL_isSeat_1665 0 rfl ?_
  refine V_bipush (pc := 1667) C (v := 9) dL_isSeat_1667 rfl ?_
  refine V_icmp_ne (pc := 1669) (tgt := 1674) C dL_isSeat_1669 (by decide) h (fun h => ?_) (fun h => ?_)
  · refine V_iload (pc := 1674) C dL_isSeat_1674 8 rfl ?_
    refine V_if_eq (pc := 1676) (tgt := 1695) C dL_isSeat_1676 (by decide) h (fun h => ?_) (fun h => ?_)
    · refine V_sub [1, 2, 3, 4, 5, 7, 0] rfl ?_
      exact k_L_isSeat_1695 hT hl C hr hnm htab  h
    · refine V_iload (pc := 1679) C dL_isSeat_1679 5 rfl ?_
      refine V_bipush (pc := 1681) C (v := 121) dL_isSeat_1681 rfl ?_
      refine V_icmp_ge (pc := 1683) (tgt := 1695) C dL_isSeat_1683 (by decide) h (fun h => ?_) (fun h => ?_)
      · refine V_sub [1, 2, 3, 4, 5, 7, 0] rfl ?_
        exact k_L_isSeat_1695 hT hl C hr hnm htab  h
      · refine V_iload (pc := 1686) C dL_isSeat_1686 6 rfl ?_
        refine V_if_eq (pc := 1688) (tgt := 1695) C dL_isSeat_1688 (by decide) h (fun h => ?_) (fun h => ?_)
        · refine V_sub [1, 2, 3, 4, 5, 7, 0] rfl ?_
          exact k_L_isSeat_1695 hT hl C hr hnm htab  h
        · refine V_iconst (pc := 1691) C (v := 1) dL_isSeat_1691 rfl ?_
          refine V_goto (pc := 1692) (tgt := 1696) C dL_isSeat_1692 (by decide) ?_
          refine V_sub [1, 2, 3, 4, 5, 7, 0] rfl ?_
          exact k_L_isSeat_1696 hT hl C hr hnm htab  h
  · refine V_iconst (pc := 1672) C (v := 1) dL_isSeat_1672 rfl ?_
    exact V_zret (pc := 1673) C hr (by decide) rfl h dL_isSeat_1673
def w_L_isSeat_1647  (Q : Nat → Int32 → Sg → Prop) (x13 : Int32) (x14 : Int32) (x19 : Int32) (x22 : Int32) (x25 : Int32) (x26 : Int32) (S : Sg) : Prop := ((x14 = 0 → w_L_isSeat_1663  Q x13 x14 x19 x22 x25 x26 0 S) ∧ (¬ x14 = 0 → (w_L_people x13 S (fun k8 v7 S6 => (k8 = 0 → w_L_isSeat_1663  Q x13 x14 x19 x22 x25 x26 v7 S6) ∧ (¬ k8 = 0 → Q k8 0 S6)))))
theorem k_L_isSeat_1647 (hT : xT X = tb1) (hl : l.stackTraces = false) (C : Cn X k0 p l R s m meth c cL_isSeat RL 33 14 321) (hr : meth.sig.returnType = (some .boolean)) (hnm : meth.name = yL_isSeat.name) (htab : (∀ x ∈ c.exceptionTable.toList, False))  {x13 : Int32} {x14 : Int32} {x19 : Int32} {x22 : Int32} {x25 : Int32} {x26 : Int32} {S : Sg} (h : w_L_isSeat_1647  Qa x13 x14 x19 x22 x25 x26 S) : V X p l e R s m args below meth c 33 (QM X below args s S0 ad0 rvI Qa) S0 ad0 S 1647 [(0, Value.ref (enc 0 0)), (8, Value.ref (enc 13 11)), (13, Value.int x13), (14, Value.int x14), (19, Value.int x19), (22, Value.int x22), (25, Value.int x25), (26, Value.int x26)] [] := by
  refine V_iload (pc := 1647) C dL_isSeat_1647 3 rfl ?_
  refine V_if_eq (pc := 1649) (tgt := 1662) C dL_isSeat_1649 (by decide) h (fun h => ?_) (fun h => ?_)
  · refine V_iconst (pc := 1662) C (v := 0) dL_isSeat_1662 rfl ?_
    refine V_sub [0, 1, 2, 3, 4, 5, 6, 7] rfl ?_
    exact k_L_isSeat_1663 hT hl C hr hnm htab  h
  · refine V_aload (pc := 1652) C dL_isSeat_1652 1 rfl ?_
    refine V_iload (pc := 1654) C dL_isSeat_1654 2 rfl ?_
    refine V_callS (pc := 1656) C (ct_L_people hT hl h) g825 g826 g827 g32 ⟨by decide, by decide, pl_L_people⟩ ⟨by decide, by decide⟩ (rest := []) rfl (le8 rfl) dL_isSeat_1656 (fun v7 S6 h => ?_) (fun k9 S9 hk h => VX_out C htab hk (h.2 (by omega)))
    replace h := h.1 rfl
    refine V_st (st' := [Value.int v7]) rfl ?_
    refine V_goto (pc := 1659) (tgt := 1663) C dL_isSeat_1659 (by decide) ?_
    refine V_sub [0, 1, 2, 3, 4, 5, 6, 7] rfl ?_
    exact k_L_isSeat_1663 hT hl C hr hnm htab  h
def w_L_isSeat_1639 (k1600 : Int32 → Int32 → Int32 → Int32 → Int32 → Int32 → Int32 → Int32 → Int32 → Sg → Prop) (Q : Nat → Int32 → Sg → Prop) (x13 : Int32) (x14 : Int32) (x15 : Int32) (x16 : Int32) (x19 : Int32) (x22 : Int32) (x25 : Int32) (x27 : Int32) (y0 : Int32) (S : Sg) : Prop := k1600 x13 x14 x15 x16 x19 x22 x25 y0 (x27 + 1) S
theorem k_L_isSeat_1639 (hT : xT X = tb1) (hl : l.stackTraces = false) (C : Cn X k0 p l R s m meth c cL_isSeat RL 33 14 321) (hr : meth.sig.returnType = (some .boolean)) (hnm : meth.name = yL_isSeat.name) (htab : (∀ x ∈ c.exceptionTable.toList, False)) {k1600 : Int32 → Int32 → Int32 → Int32 → Int32 → Int32 → Int32 → Int32 → Int32 → Sg → Prop} (hk1600 : ∀ {x13 : Int32} {x14 : Int32} {x15 : Int32} {x16 : Int32} {x19 : Int32} {x22 : Int32} {x25 : Int32} {x26 : Int32} {x27 : Int32} {S : Sg}, k1600 x13 x14 x15 x16 x19 x22 x25 x26 x27 S → V X p l e R s m args below meth c 33 (QM X below args s S0 ad0 rvI Qa) S0 ad0 S 1600 [(0, Value.ref (enc 0 0)), (4, Value.ref (enc 13 7)), (8, Value.ref (enc 13 11)), (13, Value.int x13), (14, Value.int x14), (15, Value.int x15), (16, Value.int x16), (19, Value.int x19), (22, Value.int x22), (25, Value.int x25), (26, Value.int x26), (27, Value.int x27)] []) {x13 : Int32} {x14 : Int32} {x15 : Int32} {x16 : Int32} {x19 : Int32} {x22 : Int32} {x25 : Int32} {x27 : Int32} {y0 : Int32} {S : Sg} (h : w_L_isSeat_1639 k1600 Qa x13 x14 x15 x16 x19 x22 x25 x27 y0 S) : V X p l e R s m args below meth c 33 (QM X below args s S0 ad0 rvI Qa) S0 ad0 S 1639 [(0, Value.ref (enc 0 0)), (4, Value.ref (enc 13 7)), (8, Value.ref (enc 13 11)), (13, Value.int x13), (14, Value.int x14), (15, Value.int x15), (16, Value.int x16), (19, Value.int x19), (22, Value.int x22), (25, Value.int x25), (27, Value.int x27)] [Value.int y0] := by
  refine V_istore (pc := 1639) C dL_isSeat_1639 (by decide) rfl ?_
  refine V_iinc (pc := 1641) C (a := 11) (v := x27 + 1) dL_isSeat_1641 rfl rfl (by decide) rfl ?_
  refine V_goto (pc := 1644) (tgt := 1600) C dL_isSeat_1644 (by decide) ?_
  refine V_sub [2, 3, 4, 5, 6, 7, 8, 9, 10, 11, 1, 0] rfl ?_
  exact hk1600 h
def w_L_isSeat_1638 (k1600 : Int32 → Int32 → Int32 → Int32 → Int32 → Int32 → Int32 → Int32 → Int32 → Sg → Prop) (Q : Nat → Int32 → Sg → Prop) (x13 : Int32) (x14 : Int32) (x15 : Int32) (x16 : Int32) (x19 : Int32) (x22 : Int32) (x25 : Int32) (x27 : Int32) (S : Sg) : Prop := w_L_isSeat_1639 k1600 Q x13 x14 x15 x16 x19 x22 x25 x27 0 S
theorem k_L_isSeat_1638 (hT : xT X = tb1) (hl : l.stackTraces = false) (C : Cn X k0 p l R s m meth c cL_isSeat RL 33 14 321) (hr : meth.sig.returnType = (some .boolean)) (hnm : meth.name = yL_isSeat.name) (htab : (∀ x ∈ c.exceptionTable.toList, False)) {k1600 : Int32 → Int32 → Int32 → Int32 → Int32 → Int32 → Int32 → Int32 → Int32 → Sg → Prop} (hk1600 : ∀ {x13 : Int32} {x14 : Int32} {x15 : Int32} {x16 : Int32} {x19 : Int32} {x22 : Int32} {x25 : Int32} {x26 : Int32} {x27 : Int32} {S : Sg}, k1600 x13 x14 x15 x16 x19 x22 x25 x26 x27 S → V X p l e R s m args below meth c 33 (QM X below args s S0 ad0 rvI Qa) S0 ad0 S 1600 [(0, Value.ref (enc 0 0)), (4, Value.ref (enc 13 7)), (8, Value.ref (enc 13 11)), (13, Value.int x13), (14, Value.int x14), (15, Value.int x15), (16, Value.int x16), (19, Value.int x19), (22, Value.int x22), (25, Value.int x25), (26, Value.int x26), (27, Value.int x27)] []) {x13 : Int32} {x14 : Int32} {x15 : Int32} {x16 : Int32} {x19 : Int32} {x22 : Int32} {x25 : Int32} {x27 : Int32} {S : Sg} (h : w_L_isSeat_1638 k1600 Qa x13 x14 x15 x16 x19 x22 x25 x27 S) : V X p l e R s m args below meth c 33 (QM X below args s S0 ad0 rvI Qa) S0 ad0 S 1638 [(0, Value.ref (enc 0 0)), (4, Value.ref (enc 13 7)), (8, Value.ref (enc 13 11)), (13, Value.int x13), (14, Value.int x14), (15, Value.int x15), (16, Value.int x16), (19, Value.int x19), (22, Value.int x22), (25, Value.int x25), (27, Value.int x27)] [] := by
  refine V_iconst (pc := 1638) C (v := 0) dL_isSeat_1638 rfl ?_
  refine V_sub [0, 1, 2, 3, 4, 5, 6, 7, 8, 9, 10] rfl ?_
  exact k_L_isSeat_1639 hT hl C hr hnm htab (fun h => hk1600 h) h
def w_L_isSeat_1600  (Q : Nat → Int32 → Sg → Prop) : Nat → Int32 → Int32 → Int32 → Int32 → Int32 → Int32 → Int32 → Int32 → Int32 → Sg → Prop
  | 0, _, _, _, _, _, _, _, _, _, _ => False
  | n + 1, x13, x14, x15, x16, x19, x22, x25, x26, x27, S => (((x15 * x16) ≤ x27 → w_L_isSeat_1647  Q x13 x14 x19 x22 x25 x26 S) ∧ (¬ (x15 * x16) ≤ x27 → ((x14 = 0 → w_L_isSeat_1647  Q x13 x14 x19 x22 x25 x26 S) ∧ (¬ x14 = 0 → ((x26 = 0 → w_L_isSeat_1638 (fun x13 x14 x15 x16 x19 x22 x25 x26 x27 S => w_L_isSeat_1600  Q n x13 x14 x15 x16 x19 x22 x25 x26 x27 S) Q x13 x14 x15 x16 x19 x22 x25 x27 S) ∧ (¬ x26 = 0 → (vp_in ((12 * x13) + x27) 60 ∧ (((S.1 107 (nt ((12 * x13) + x27))) = 0 → w_L_isSeat_1638 (fun x13 x14 x15 x16 x19 x22 x25 x26 x27 S => w_L_isSeat_1600  Q n x13 x14 x15 x16 x19 x22 x25 x26 x27 S) Q x13 x14 x15 x16 x19 x22 x25 x27 S) ∧ (¬ (S.1 107 (nt ((12 * x13) + x27))) = 0 → w_L_isSeat_1639 (fun x13 x14 x15 x16 x19 x22 x25 x26 x27 S => w_L_isSeat_1600  Q n x13 x14 x15 x16 x19 x22 x25 x26 x27 S) Q x13 x14 x15 x16 x19 x22 x25 x27 1 S)))))))))
theorem k_L_isSeat_1600 (hT : xT X = tb1) (hl : l.stackTraces = false) (C : Cn X k0 p l R s m meth c cL_isSeat RL 33 14 321) (hr : meth.sig.returnType = (some .boolean)) (hnm : meth.name = yL_isSeat.name) (htab : (∀ x ∈ c.exceptionTable.toList, False))  : ∀ n {x13 : Int32} {x14 : Int32} {x15 : Int32} {x16 : Int32} {x19 : Int32} {x22 : Int32} {x25 : Int32} {x26 : Int32} {x27 : Int32} {S : Sg}, w_L_isSeat_1600  Qa n x13 x14 x15 x16 x19 x22 x25 x26 x27 S → V X p l e R s m args below meth c 33 (QM X below args s S0 ad0 rvI Qa) S0 ad0 S 1600 [(0, Value.ref (enc 0 0)), (4, Value.ref (enc 13 7)), (8, Value.ref (enc 13 11)), (13, Value.int x13), (14, Value.int x14), (15, Value.int x15), (16, Value.int x16), (19, Value.int x19), (22, Value.int x22), (25, Value.int x25), (26, Value.int x26), (27, Value.int x27)] [] := by
  intro n
  induction n with
  | zero => intro x13 x14 x15 x16 x19 x22 x25 x26 x27 S h; exact h.elim
  | succ n ih =>
    intro x13 x14 x15 x16 x19 x22 x25 x26 x27 S h
    refine V_iload (pc := 1600) C dL_isSeat_1600 11 rfl ?_
    refine V_iload (pc := 1602) C dL_isSeat_1602 5 rfl ?_
    refine V_iload (pc := 1604) C dL_isSeat_1604 6 rfl ?_
    refine V_imul (pc := 1606) C dL_isSeat_1606 ?_
    refine V_icmp_ge (pc := 1607) (tgt := 1647) C dL_isSeat_1607 (by decide) h (fun h => ?_) (fun h => ?_)
    · refine V_sub [0, 2, 3, 4, 7, 8, 9, 10] rfl ?_
      exact k_L_isSeat_1647 hT hl C hr hnm htab  h
    · refine V_iload (pc := 1610) C dL_isSeat_1610 4 rfl ?_
      refine V_if_eq (pc := 1612) (tgt := 1647) C dL_isSeat_1612 (by decide) h (fun h => ?_) (fun h => ?_)
      · refine V_sub [0, 2, 3, 4, 7, 8, 9, 10] rfl ?_
        exact k_L_isSeat_1647 hT hl C hr hnm htab  h
      · refine V_iload (pc := 1615) C dL_isSeat_1615 10 rfl ?_
        refine V_if_eq (pc := 1617) (tgt := 1638) C dL_isSeat_1617 (by decide) h (fun h => ?_) (fun h => ?_)
        · refine V_sub [0, 1, 2, 3, 4, 5, 6, 7, 8, 9, 11] rfl ?_
          exact k_L_isSeat_1638 hT hl C hr hnm htab (fun h => ih h) h
        · refine V_aload (pc := 1620) C dL_isSeat_1620 1 rfl ?_
          refine V_bipush (pc := 1622) C (v := 12) dL_isSeat_1622 rfl ?_
          refine V_iload (pc := 1624) C dL_isSeat_1624 3 rfl ?_
          refine V_imul (pc := 1626) C dL_isSeat_1626 ?_
          refine V_iload (pc := 1627) C dL_isSeat_1627 11 rfl ?_
          refine V_iadd (pc := 1629) C dL_isSeat_1629 ?_
          refine V_mld (pc := 1630) C hT tb1_arr (n := 60) (c9 := 107) rfl rfl rfl h dL_isSeat_1630 (fun h => ?_)
          refine V_if_eq (pc := 1631) (tgt := 1638) C dL_isSeat_1631 (by decide) h (fun h => ?_) (fun h => ?_)
          · refine V_sub [0, 1, 2, 3, 4, 5, 6, 7, 8, 9, 11] rfl ?_
            exact k_L_isSeat_1638 hT hl C hr hnm htab (fun h => ih h) h
          · refine V_iconst (pc := 1634) C (v := 1) dL_isSeat_1634 rfl ?_
            refine V_goto (pc := 1635) (tgt := 1639) C dL_isSeat_1635 (by decide) ?_
            refine V_sub [0, 1, 2, 3, 4, 5, 6, 7, 8, 9, 11] rfl ?_
            exact k_L_isSeat_1639 hT hl C hr hnm htab (fun h => ih h) h
def w_L_isSeat_1595  (Q : Nat → Int32 → Sg → Prop) (x13 : Int32) (x14 : Int32) (x15 : Int32) (x16 : Int32) (x19 : Int32) (x22 : Int32) (x25 : Int32) (y0 : Int32) (S : Sg) : Prop := ∃ n9, w_L_isSeat_1600  Q n9 x13 x14 x15 x16 x19 x22 x25 y0 0 S
theorem k_L_isSeat_1595 (hT : xT X = tb1) (hl : l.stackTraces = false) (C : Cn X k0 p l R s m meth c cL_isSeat RL 33 14 321) (hr : meth.sig.returnType = (some .boolean)) (hnm : meth.name = yL_isSeat.name) (htab : (∀ x ∈ c.exceptionTable.toList, False))  {x13 : Int32} {x14 : Int32} {x15 : Int32} {x16 : Int32} {x19 : Int32} {x22 : Int32} {x25 : Int32} {y0 : Int32} {S : Sg} (h : w_L_isSeat_1595  Qa x13 x14 x15 x16 x19 x22 x25 y0 S) : V X p l e R s m args below meth c 33 (QM X below args s S0 ad0 rvI Qa) S0 ad0 S 1595 [(0, Value.ref (enc 0 0)), (4, Value.ref (enc 13 7)), (8, Value.ref (enc 13 11)), (13, Value.int x13), (14, Value.int x14), (15, Value.int x15), (16, Value.int x16), (19, Value.int x19), (22, Value.int x22), (25, Value.int x25)] [Value.int y0] := by
  refine V_istore (pc := 1595) C dL_isSeat_1595 (by decide) rfl ?_
  refine V_iconst (pc := 1597) C (v := 0) dL_isSeat_1597 rfl ?_
  refine V_istore (pc := 1598) C dL_isSeat_1598 (by decide) rfl ?_
  refine V_sub [2, 3, 4, 5, 6, 7, 8, 9, 10, 11, 1, 0] rfl ?_
  obtain ⟨n9, h⟩ := h
  exact k_L_isSeat_1600 hT hl C hr hnm htab  n9 h
def w_L_isSeat_1594  (Q : Nat → Int32 → Sg → Prop) (x13 : Int32) (x14 : Int32) (x15 : Int32) (x16 : Int32) (x19 : Int32) (x22 : Int32) (x25 : Int32) (S : Sg) : Prop := w_L_isSeat_1595  Q x13 x14 x15 x16 x19 x22 x25 0 S
theorem k_L_isSeat_1594 (hT : xT X = tb1) (hl : l.stackTraces = false) (C : Cn X k0 p l R s m meth c cL_isSeat RL 33 14 321) (hr : meth.sig.returnType = (some .boolean)) (hnm : meth.name = yL_isSeat.name) (htab : (∀ x ∈ c.exceptionTable.toList, False))  {x13 : Int32} {x14 : Int32} {x15 : Int32} {x16 : Int32} {x19 : Int32} {x22 : Int32} {x25 : Int32} {S : Sg} (h : w_L_isSeat_1594  Qa x13 x14 x15 x16 x19 x22 x25 S) : V X p l e R s m args below meth c 33 (QM X below args s S0 ad0 rvI Qa) S0 ad0 S 1594 [(0, Value.ref (enc 0 0)), (4, Value.ref (enc 13 7)), (8, Value.ref (enc 13 11)), (13, Value.int x13), (14, Value.int x14), (15, Value.int x15), (16, Value.int x16), (19, Value.int x19), (22, Value.int x22), (25, Value.int x25)] [] := by
  refine V_iconst (pc := 1594) C (v := 0) dL_isSeat_1594 rfl ?_
  refine V_sub [0, 1, 2, 3, 4, 5, 6, 7, 8, 9] rfl ?_
  exact k_L_isSeat_1595 hT hl C hr hnm htab  h
def w_L_isSeat_1574  (Q : Nat → Int32 → Sg → Prop) (x13 : Int32) (x14 : Int32) (x15 : Int32) (x16 : Int32) (x19 : Int32) (x22 : Int32) (y0 : Int32) (S : Sg) : Prop := ((x14 = 0 → w_L_isSeat_1594  Q x13 x14 x15 x16 x19 x22 y0 S) ∧ (¬ x14 = 0 → (w_L_state x13 S (fun k11 v10 S9 => (k11 = 0 → ((v10 = 0 → w_L_isSeat_1595  Q x13 x14 x15 x16 x19 x22 y0 1 S9) ∧ (¬ v10 = 0 → w_L_isSeat_1594  Q x13 x14 x15 x16 x19 x22 y0 S9))) ∧ (¬ k11 = 0 → Q k11 0 S9)))))
theorem k_L_isSeat_1574 (hT : xT X = tb1) (hl : l.stackTraces = false) (C : Cn X k0 p l R s m meth c cL_isSeat RL 33 14 321) (hr : meth.sig.returnType = (some .boolean)) (hnm : meth.name = yL_isSeat.name) (htab : (∀ x ∈ c.exceptionTable.toList, False))  {x13 : Int32} {x14 : Int32} {x15 : Int32} {x16 : Int32} {x19 : Int32} {x22 : Int32} {y0 : Int32} {S : Sg} (h : w_L_isSeat_1574  Qa x13 x14 x15 x16 x19 x22 y0 S) : V X p l e R s m args below meth c 33 (QM X below args s S0 ad0 rvI Qa) S0 ad0 S 1574 [(0, Value.ref (enc 0 0)), (3, Value.ref (enc 13 6)), (4, Value.ref (enc 13 7)), (8, Value.ref (enc 13 11)), (13, Value.int x13), (14, Value.int x14), (15, Value.int x15), (16, Value.int x16), (19, Value.int x19), (22, Value.int x22)] [Value.int y0] := by
  refine V_istore (pc := 1574) C dL_isSeat_1574 (by decide) rfl ?_
  refine V_iload (pc := 1576) C dL_isSeat_1576 6 rfl ?_
  refine V_if_eq (pc := 1578) (tgt := 1594) C dL_isSeat_1578 (by decide) h (fun h => ?_) (fun h => ?_)
  · refine V_sub [1, 3, 4, 5, 6, 7, 8, 9, 10, 0] rfl ?_
    exact k_L_isSeat_1594 hT hl C hr hnm htab  h
  · refine V_aload_n (pc := 1581) C dL_isSeat_1581 rfl 2 rfl ?_
    refine V_iload (pc := 1582) C dL_isSeat_1582 5 rfl ?_
    refine V_callS (pc := 1584) C (ct_L_state hT hl h) g794 g795 g796 g32 ⟨by decide, by decide, pl_L_state⟩ ⟨by decide, by decide⟩ (rest := []) rfl (le8 rfl) dL_isSeat_1584 (fun v10 S9 h => ?_) (fun k9 S9 hk h => VX_out C htab hk (h.2 (by omega)))
    replace h := h.1 rfl
    refine V_st (st' := [Value.int v10]) rfl ?_
    refine V_if_ne (pc := 1587) (tgt := 1594) C dL_isSeat_1587 (by decide) h (fun h => ?_) (fun h => ?_)
    · refine V_sub [1, 3, 4, 5, 6, 7, 8, 9, 10, 0] rfl ?_
      exact k_L_isSeat_1594 hT hl C hr hnm htab  h
    · refine V_iconst (pc := 1590) C (v := 1) dL_isSeat_1590 rfl ?_
      refine V_goto (pc := 1591) (tgt := 1595) C dL_isSeat_1591 (by decide) ?_
      refine V_sub [1, 3, 4, 5, 6, 7, 8, 9, 10, 0] rfl ?_
      exact k_L_isSeat_1595 hT hl C hr hnm htab  h
def w_L_isSeat_1550  (Q : Nat → Int32 → Sg → Prop) (y0 : Int32) (y1 : Int32) (S : Sg) : Prop := ((y1 = y0 → Q 0 1 S) ∧ (¬ y1 = y0 → Q 0 0 S))
theorem k_L_isSeat_1550 (hT : xT X = tb1) (hl : l.stackTraces = false) (C : Cn X k0 p l R s m meth c cL_isSeat RL 33 14 321) (hr : meth.sig.returnType = (some .boolean)) (hnm : meth.name = yL_isSeat.name) (htab : (∀ x ∈ c.exceptionTable.toList, False))  {y0 : Int32} {y1 : Int32} {S : Sg} (h : w_L_isSeat_1550  Qa y0 y1 S) : V X p l e R s m args below meth c 33 (QM X below args s S0 ad0 rvI Qa) S0 ad0 S 1550 [] [Value.int y0, Value.int y1] := by
  refine V_icmp_ne (pc := 1550) (tgt := 1557) C dL_isSeat_1550 (by decide) h (fun h => ?_) (fun h => ?_)
  · refine V_iconst (pc := 1557) C (v := 0) dL_isSeat_1557 rfl ?_
    exact V_zret (pc := 1558) C hr (by decide) rfl h dL_isSeat_1558
  · refine V_iconst (pc := 1553) C (v := 1) dL_isSeat_1553 rfl ?_
    refine V_goto (pc := 1554) (tgt := 1558) C dL_isSeat_1554 (by decide) ?_
    exact V_zret (pc := 1558) C hr (by decide) rfl h dL_isSeat_1558
def w_L_isSeat_1516  (Q : Nat → Int32 → Sg → Prop) (x25 : Int32) (x26 : Int32) (x27 : Int32) (x28 : Int32) (S : Sg) : Prop := (w_L_does 14 x25 0 0 0 0 S (fun k14 v13 S12 => (k14 = 0 → ((x26 = 0 → w_L_isSeat_1550  Q (-3000000) v13 S12) ∧ (¬ x26 = 0 → ((x27 = 0 → w_L_isSeat_1550  Q (-1000000) v13 S12) ∧ (¬ x27 = 0 → w_L_isSeat_1550  Q x28 v13 S12))))) ∧ (¬ k14 = 0 → Q k14 0 S12)))
theorem k_L_isSeat_1516 (hT : xT X = tb1) (hl : l.stackTraces = false) (C : Cn X k0 p l R s m meth c cL_isSeat RL 33 14 321) (hr : meth.sig.returnType = (some .boolean)) (hnm : meth.name = yL_isSeat.name) (htab : (∀ x ∈ c.exceptionTable.toList, False))  {x25 : Int32} {x26 : Int32} {x27 : Int32} {x28 : Int32} {S : Sg} (h : w_L_isSeat_1516  Qa x25 x26 x27 x28 S) : V X p l e R s m args below meth c 33 (QM X below args s S0 ad0 rvI Qa) S0 ad0 S 1516 [(0, Value.ref (enc 0 0)), (25, Value.int x25), (26, Value.int x26), (27, Value.int x27), (28, Value.int x28)] [] := by
  refine V_aload_n (pc := 1516) C dL_isSeat_1516 rfl 0 rfl ?_
  refine V_bipush (pc := 1517) C (v := 14) dL_isSeat_1517 rfl ?_
  refine V_iload (pc := 1519) C dL_isSeat_1519 1 rfl ?_
  refine V_iconst (pc := 1521) C (v := 0) dL_isSeat_1521 rfl ?_
  refine V_iconst (pc := 1522) C (v := 0) dL_isSeat_1522 rfl ?_
  refine V_iconst (pc := 1523) C (v := 0) dL_isSeat_1523 rfl ?_
  refine V_iconst (pc := 1524) C (v := 0) dL_isSeat_1524 rfl ?_
  refine V_callH (pc := 1525) C (ct_L_does hT hl h) g119 g120 g121 g32 ⟨by decide, by decide, pl_L_does⟩ ⟨by decide, by decide⟩ (rest := []) rfl (le8 rfl) dL_isSeat_1525 (fun v13 S12 h => ?_) (fun k9 S9 hk h => VX_out C htab hk (h.2 (by omega)))
  replace h := h.1 rfl
  refine V_st (st' := [Value.int v13]) rfl ?_
  refine V_iload (pc := 1528) C dL_isSeat_1528 2 rfl ?_
  refine V_if_ne (pc := 1530) (tgt := 1538) C dL_isSeat_1530 (by decide) h (fun h => ?_) (fun h => ?_)
  · refine V_iload (pc := 1538) C dL_isSeat_1538 3 rfl ?_
    refine V_if_eq (pc := 1540) (tgt := 1548) C dL_isSeat_1540 (by decide) h (fun h => ?_) (fun h => ?_)
    · refine V_ldc (pc := 1548) C g781 dL_isSeat_1548 ?_
      refine V_sub [] rfl ?_
      exact k_L_isSeat_1550 hT hl C hr hnm htab  h
    · refine V_iload (pc := 1543) C dL_isSeat_1543 4 rfl ?_
      refine V_goto (pc := 1545) (tgt := 1550) C dL_isSeat_1545 (by decide) ?_
      refine V_sub [] rfl ?_
      exact k_L_isSeat_1550 hT hl C hr hnm htab  h
  · refine V_ldc (pc := 1533) C g779 dL_isSeat_1533 ?_
    refine V_goto (pc := 1535) (tgt := 1550) C dL_isSeat_1535 (by decide) ?_
    refine V_sub [] rfl ?_
    exact k_L_isSeat_1550 hT hl C hr hnm htab  h
def w_L_isSeat_1447  (Q : Nat → Int32 → Sg → Prop) (x25 : Int32) (x26 : Int32) (y0 : Int32) (S : Sg) : Prop := ((y0 = 0 → w_L_isSeat_1516  Q x25 x26 y0 0 S) ∧ (¬ y0 = 0 → (vp_in x25 64 ∧ (∀ v15, v15 = S.1 109 (nt x25) → (vp_in x25 64 ∧ (∀ S16, S16 = su S 109 (nt x25) 0 → (vp_in x25 64 ∧ (vp_in x25 64 ∧ (∀ S17, S17 = su S16 108 (nt x25) ((S16.1 108 (nt x25)) + 16384) → (vp_in x25 64 ∧ (vp_in x25 64 ∧ (w_L_frees ((S17.1 108 (nt x25)) - (S17.1 108 (nt x25)) / 8 * 8) (((S17.1 108 (nt x25)) / 8) - ((S17.1 108 (nt x25)) / 8) / 16 * 16) S17 (fun k20 v19 S18 => (k20 = 0 → w_L_isSeat_1516  Q x25 x26 y0 v15 S18) ∧ (¬ k20 = 0 → Q k20 0 S18))))))))))))))
theorem k_L_isSeat_1447 (hT : xT X = tb1) (hl : l.stackTraces = false) (C : Cn X k0 p l R s m meth c cL_isSeat RL 33 14 321) (hr : meth.sig.returnType = (some .boolean)) (hnm : meth.name = yL_isSeat.name) (htab : (∀ x ∈ c.exceptionTable.toList, False))  {x25 : Int32} {x26 : Int32} {y0 : Int32} {S : Sg} (h : w_L_isSeat_1447  Qa x25 x26 y0 S) : V X p l e R s m args below meth c 33 (QM X below args s S0 ad0 rvI Qa) S0 ad0 S 1447 [(0, Value.ref (enc 0 0)), (2, Value.ref (enc 13 4)), (3, Value.ref (enc 13 6)), (4, Value.ref (enc 13 7)), (5, Value.ref (enc 13 8)), (6, Value.ref (enc 13 9)), (8, Value.ref (enc 13 11)), (9, Value.ref (enc 13 12)), (25, Value.int x25), (26, Value.int x26)] [Value.int y0] := by
  refine V_istore (pc := 1447) C dL_isSeat_1447 (by decide) rfl ?_
  refine V_iconst (pc := 1449) C (v := 0) dL_isSeat_1449 rfl ?_
  refine V_istore (pc := 1450) C dL_isSeat_1450 (by decide) rfl ?_
  refine V_iload (pc := 1452) C dL_isSeat_1452 1 rfl ?_
  refine V_if_eq (pc := 1454) (tgt := 1516) C dL_isSeat_1454 (by decide) h (fun h => ?_) (fun h => ?_)
  · refine V_sub [2, 10, 11, 1, 0] rfl ?_
    exact k_L_isSeat_1516 hT hl C hr hnm htab  h
  · refine V_aload (pc := 1457) C dL_isSeat_1457 7 rfl ?_
    refine V_iload (pc := 1459) C dL_isSeat_1459 10 rfl ?_
    refine V_mld (pc := 1461) C hT tb1_arr (n := 64) (c9 := 109) rfl rfl rfl h dL_isSeat_1461 (fun h => ?_)
    refine V_nI fun v15 e9 => ?_
    replace h := h v15 e9; clear e9
    refine V_istore (pc := 1462) C dL_isSeat_1462 (by decide) rfl ?_
    refine V_aload (pc := 1464) C dL_isSeat_1464 7 rfl ?_
    refine V_iload (pc := 1466) C dL_isSeat_1466 10 rfl ?_
    refine V_iconst (pc := 1468) C (v := 0) dL_isSeat_1468 rfl ?_
    refine V_mst (pc := 1469) C hT tb1_arr (n := 64) (c9 := 109) (by decide) rfl rfl rfl h dL_isSeat_1469 (fun h => V_nx fun S16 e9 => ?_)
    replace h := h S16 e9; clear e9
    refine V_aload (pc := 1470) C dL_isSeat_1470 6 rfl ?_
    refine V_iload (pc := 1472) C dL_isSeat_1472 10 rfl ?_
    refine V_dup2 (pc := 1474) C dL_isSeat_1474 rfl rfl ?_
    refine V_mld (pc := 1475) C hT tb1_arr (n := 64) (c9 := 108) rfl rfl rfl h dL_isSeat_1475 (fun h => ?_)
    refine V_sipush (pc := 1476) C (v := 16384) dL_isSeat_1476 rfl ?_
    refine V_iadd (pc := 1479) C dL_isSeat_1479 ?_
    refine V_mst (pc := 1480) C hT tb1_arr (n := 64) (c9 := 108) (by decide) rfl rfl rfl h dL_isSeat_1480 (fun h => V_nx fun S17 e9 => ?_)
    replace h := h S17 e9; clear e9
    refine V_aload_n (pc := 1481) C dL_isSeat_1481 rfl 3 rfl ?_
    refine V_aload_n (pc := 1482) C dL_isSeat_1482 rfl 4 rfl ?_
    refine V_aload (pc := 1483) C dL_isSeat_1483 5 rfl ?_
    refine V_aload (pc := 1485) C dL_isSeat_1485 6 rfl ?_
    refine V_aload (pc := 1487) C dL_isSeat_1487 7 rfl ?_
    refine V_aload (pc := 1489) C dL_isSeat_1489 8 rfl ?_
    refine V_aload (pc := 1491) C dL_isSeat_1491 9 rfl ?_
    refine V_aload (pc := 1493) C dL_isSeat_1493 6 rfl ?_
    refine V_iload (pc := 1495) C dL_isSeat_1495 10 rfl ?_
    refine V_mld (pc := 1497) C hT tb1_arr (n := 64) (c9 := 108) rfl rfl rfl h dL_isSeat_1497 (fun h => ?_)
    refine V_bipush (pc := 1498) C (v := 8) dL_isSeat_1498 rfl ?_
    refine V_irem (pc := 1500) C dL_isSeat_1500 (by decide) ?_
    refine V_aload (pc := 1501) C dL_isSeat_1501 6 rfl ?_
    refine V_iload (pc := 1503) C dL_isSeat_1503 10 rfl ?_
    refine V_mld (pc := 1505) C hT tb1_arr (n := 64) (c9 := 108) rfl rfl rfl h dL_isSeat_1505 (fun h => ?_)
    refine V_bipush (pc := 1506) C (v := 8) dL_isSeat_1506 rfl ?_
    refine V_idiv (pc := 1508) C dL_isSeat_1508 (by decide) ?_
    refine V_bipush (pc := 1509) C (v := 16) dL_isSeat_1509 rfl ?_
    refine V_irem (pc := 1511) C dL_isSeat_1511 (by decide) ?_
    refine V_callS (pc := 1512) C (ct_L_frees hT hl h) g893 g894 g895 g32 ⟨by decide, by decide, pl_L_frees⟩ ⟨by decide, by decide⟩ (rest := []) rfl (le8 rfl) dL_isSeat_1512 (fun v19 S18 h => ?_) (fun k9 S9 hk h => VX_out C htab hk (h.2 (by omega)))
    replace h := h.1 rfl
    refine V_st (st' := [Value.int v19]) rfl ?_
    refine V_pop (pc := 1515) C dL_isSeat_1515 rfl ?_
    refine V_sub [2, 10, 11, 1, 0] rfl ?_
    exact k_L_isSeat_1516 hT hl C hr hnm htab  h
def w_L_isSeat_1446  (Q : Nat → Int32 → Sg → Prop) (x25 : Int32) (x26 : Int32) (S : Sg) : Prop := w_L_isSeat_1447  Q x25 x26 0 S
theorem k_L_isSeat_1446 (hT : xT X = tb1) (hl : l.stackTraces = false) (C : Cn X k0 p l R s m meth c cL_isSeat RL 33 14 321) (hr : meth.sig.returnType = (some .boolean)) (hnm : meth.name = yL_isSeat.name) (htab : (∀ x ∈ c.exceptionTable.toList, False))  {x25 : Int32} {x26 : Int32} {S : Sg} (h : w_L_isSeat_1446  Qa x25 x26 S) : V X p l e R s m args below meth c 33 (QM X below args s S0 ad0 rvI Qa) S0 ad0 S 1446 [(0, Value.ref (enc 0 0)), (2, Value.ref (enc 13 4)), (3, Value.ref (enc 13 6)), (4, Value.ref (enc 13 7)), (5, Value.ref (enc 13 8)), (6, Value.ref (enc 13 9)), (8, Value.ref (enc 13 11)), (9, Value.ref (enc 13 12)), (25, Value.int x25), (26, Value.int x26)] [] := by
  refine V_iconst (pc := 1446) C (v := 0) dL_isSeat_1446 rfl ?_
  refine V_sub [0, 1, 2, 3, 4, 5, 6, 7, 8, 9] rfl ?_
  exact k_L_isSeat_1447 hT hl C hr hnm htab  h
def w_L_isSeat_1409  (Q : Nat → Int32 → Sg → Prop) (x25 : Int32) (y0 : Int32) (S : Sg) : Prop := ((y0 = 0 → w_L_isSeat_1446  Q x25 y0 S) ∧ (¬ y0 = 0 → (vp_in x25 64 ∧ ((16384 ≤ (S.1 108 (nt x25)) → w_L_isSeat_1446  Q x25 y0 S) ∧ (¬ 16384 ≤ (S.1 108 (nt x25)) → (vp_in x25 64 ∧ (w_L_state ((S.1 108 (nt x25)) - (S.1 108 (nt x25)) / 8 * 8) S (fun k23 v22 S21 => (k23 = 0 → ((v22 = 0 → w_L_isSeat_1447  Q x25 y0 1 S21) ∧ (¬ v22 = 0 → w_L_isSeat_1446  Q x25 y0 S21))) ∧ (¬ k23 = 0 → Q k23 0 S21)))))))))
theorem k_L_isSeat_1409 (hT : xT X = tb1) (hl : l.stackTraces = false) (C : Cn X k0 p l R s m meth c cL_isSeat RL 33 14 321) (hr : meth.sig.returnType = (some .boolean)) (hnm : meth.name = yL_isSeat.name) (htab : (∀ x ∈ c.exceptionTable.toList, False))  {x25 : Int32} {y0 : Int32} {S : Sg} (h : w_L_isSeat_1409  Qa x25 y0 S) : V X p l e R s m args below meth c 33 (QM X below args s S0 ad0 rvI Qa) S0 ad0 S 1409 [(0, Value.ref (enc 0 0)), (2, Value.ref (enc 13 4)), (3, Value.ref (enc 13 6)), (4, Value.ref (enc 13 7)), (5, Value.ref (enc 13 8)), (6, Value.ref (enc 13 9)), (8, Value.ref (enc 13 11)), (9, Value.ref (enc 13 12)), (25, Value.int x25)] [Value.int y0] := by
  refine V_istore (pc := 1409) C dL_isSeat_1409 (by decide) rfl ?_
  refine V_iload (pc := 1411) C dL_isSeat_1411 0 rfl ?_
  refine V_if_eq (pc := 1413) (tgt := 1446) C dL_isSeat_1413 (by decide) h (fun h => ?_) (fun h => ?_)
  · refine V_sub [1, 2, 3, 4, 5, 6, 7, 8, 9, 0] rfl ?_
    exact k_L_isSeat_1446 hT hl C hr hnm htab  h
  · refine V_aload (pc := 1416) C dL_isSeat_1416 5 rfl ?_
    refine V_iload (pc := 1418) C dL_isSeat_1418 9 rfl ?_
    refine V_mld (pc := 1420) C hT tb1_arr (n := 64) (c9 := 108) rfl rfl rfl h dL_isSeat_1420 (fun h => ?_)
    refine V_sipush (pc := 1421) C (v := 16384) dL_isSeat_1421 rfl ?_
    refine V_icmp_ge (pc := 1424) (tgt := 1446) C dL_isSeat_1424 (by decide) h (fun h => ?_) (fun h => ?_)
    · refine V_sub [1, 2, 3, 4, 5, 6, 7, 8, 9, 0] rfl ?_
      exact k_L_isSeat_1446 hT hl C hr hnm htab  h
    · refine V_aload_n (pc := 1427) C dL_isSeat_1427 rfl 3 rfl ?_
      refine V_aload (pc := 1428) C dL_isSeat_1428 5 rfl ?_
      refine V_iload (pc := 1430) C dL_isSeat_1430 9 rfl ?_
      refine V_mld (pc := 1432) C hT tb1_arr (n := 64) (c9 := 108) rfl rfl rfl h dL_isSeat_1432 (fun h => ?_)
      refine V_bipush (pc := 1433) C (v := 8) dL_isSeat_1433 rfl ?_
      refine V_irem (pc := 1435) C dL_isSeat_1435 (by decide) ?_
      refine V_callS (pc := 1436) C (ct_L_state hT hl h) g794 g795 g796 g32 ⟨by decide, by decide, pl_L_state⟩ ⟨by decide, by decide⟩ (rest := []) rfl (le8 rfl) dL_isSeat_1436 (fun v22 S21 h => ?_) (fun k9 S9 hk h => VX_out C htab hk (h.2 (by omega)))
      replace h := h.1 rfl
      refine V_st (st' := [Value.int v22]) rfl ?_
      refine V_if_ne (pc := 1439) (tgt := 1446) C dL_isSeat_1439 (by decide) h (fun h => ?_) (fun h => ?_)
      · refine V_sub [1, 2, 3, 4, 5, 6, 7, 8, 9, 0] rfl ?_
        exact k_L_isSeat_1446 hT hl C hr hnm htab  h
      · refine V_iconst (pc := 1442) C (v := 1) dL_isSeat_1442 rfl ?_
        refine V_goto (pc := 1443) (tgt := 1447) C dL_isSeat_1443 (by decide) ?_
        refine V_sub [1, 2, 3, 4, 5, 6, 7, 8, 9, 0] rfl ?_
        exact k_L_isSeat_1447 hT hl C hr hnm htab  h
def w_L_isSeat_1367  (Q : Nat → Int32 → Sg → Prop) (y0 : Int32) (y1 : Int32) (S : Sg) : Prop := ((y1 = y0 → Q 0 1 S) ∧ (¬ y1 = y0 → Q 0 0 S))
theorem k_L_isSeat_1367 (hT : xT X = tb1) (hl : l.stackTraces = false) (C : Cn X k0 p l R s m meth c cL_isSeat RL 33 14 321) (hr : meth.sig.returnType = (some .boolean)) (hnm : meth.name = yL_isSeat.name) (htab : (∀ x ∈ c.exceptionTable.toList, False))  {y0 : Int32} {y1 : Int32} {S : Sg} (h : w_L_isSeat_1367  Qa y0 y1 S) : V X p l e R s m args below meth c 33 (QM X below args s S0 ad0 rvI Qa) S0 ad0 S 1367 [] [Value.int y0, Value.int y1] := by
  refine V_icmp_ne (pc := 1367) (tgt := 1374) C dL_isSeat_1367 (by decide) h (fun h => ?_) (fun h => ?_)
  · refine V_iconst (pc := 1374) C (v := 0) dL_isSeat_1374 rfl ?_
    exact V_zret (pc := 1375) C hr (by decide) rfl h dL_isSeat_1375
  · refine V_iconst (pc := 1370) C (v := 1) dL_isSeat_1370 rfl ?_
    refine V_goto (pc := 1371) (tgt := 1375) C dL_isSeat_1371 (by decide) ?_
    exact V_zret (pc := 1375) C hr (by decide) rfl h dL_isSeat_1375
def w_L_isSeat_1321  (Q : Nat → Int32 → Sg → Prop) (x13 : Int32) (x14 : Int32) (x19 : Int32) (x25 : Int32) (x26 : Int32) (x28 : Int32) (x29 : Int32) (S : Sg) : Prop := (w_L_does 13 x13 x25 x19 0 0 S (fun k26 v25 S24 => (k26 = 0 → ((x14 = 0 → w_L_isSeat_1367  Q (-3000000) v25 S24) ∧ (¬ x14 = 0 → ((x26 = 0 → w_L_isSeat_1367  Q (-2000000) v25 S24) ∧ (¬ x26 = 0 → ((x28 = 0 → w_L_isSeat_1367  Q (-1000000) v25 S24) ∧ (¬ x28 = 0 → w_L_isSeat_1367  Q x29 v25 S24))))))) ∧ (¬ k26 = 0 → Q k26 0 S24)))
theorem k_L_isSeat_1321 (hT : xT X = tb1) (hl : l.stackTraces = false) (C : Cn X k0 p l R s m meth c cL_isSeat RL 33 14 321) (hr : meth.sig.returnType = (some .boolean)) (hnm : meth.name = yL_isSeat.name) (htab : (∀ x ∈ c.exceptionTable.toList, False))  {x13 : Int32} {x14 : Int32} {x19 : Int32} {x25 : Int32} {x26 : Int32} {x28 : Int32} {x29 : Int32} {S : Sg} (h : w_L_isSeat_1321  Qa x13 x14 x19 x25 x26 x28 x29 S) : V X p l e R s m args below meth c 33 (QM X below args s S0 ad0 rvI Qa) S0 ad0 S 1321 [(0, Value.ref (enc 0 0)), (13, Value.int x13), (14, Value.int x14), (19, Value.int x19), (25, Value.int x25), (26, Value.int x26), (28, Value.int x28), (29, Value.int x29)] [] := by
  refine V_aload_n (pc := 1321) C dL_isSeat_1321 rfl 0 rfl ?_
  refine V_bipush (pc := 1322) C (v := 13) dL_isSeat_1322 rfl ?_
  refine V_iload (pc := 1324) C dL_isSeat_1324 1 rfl ?_
  refine V_iload (pc := 1326) C dL_isSeat_1326 4 rfl ?_
  refine V_iload (pc := 1328) C dL_isSeat_1328 3 rfl ?_
  refine V_iconst (pc := 1330) C (v := 0) dL_isSeat_1330 rfl ?_
  refine V_iconst (pc := 1331) C (v := 0) dL_isSeat_1331 rfl ?_
  refine V_callH (pc := 1332) C (ct_L_does hT hl h) g119 g120 g121 g32 ⟨by decide, by decide, pl_L_does⟩ ⟨by decide, by decide⟩ (rest := []) rfl (le8 rfl) dL_isSeat_1332 (fun v25 S24 h => ?_) (fun k9 S9 hk h => VX_out C htab hk (h.2 (by omega)))
  replace h := h.1 rfl
  refine V_st (st' := [Value.int v25]) rfl ?_
  refine V_iload (pc := 1335) C dL_isSeat_1335 2 rfl ?_
  refine V_if_ne (pc := 1337) (tgt := 1345) C dL_isSeat_1337 (by decide) h (fun h => ?_) (fun h => ?_)
  · refine V_iload (pc := 1345) C dL_isSeat_1345 5 rfl ?_
    refine V_if_ne (pc := 1347) (tgt := 1355) C dL_isSeat_1347 (by decide) h (fun h => ?_) (fun h => ?_)
    · refine V_iload (pc := 1355) C dL_isSeat_1355 6 rfl ?_
      refine V_if_eq (pc := 1357) (tgt := 1365) C dL_isSeat_1357 (by decide) h (fun h => ?_) (fun h => ?_)
      · refine V_ldc (pc := 1365) C g781 dL_isSeat_1365 ?_
        refine V_sub [] rfl ?_
        exact k_L_isSeat_1367 hT hl C hr hnm htab  h
      · refine V_iload (pc := 1360) C dL_isSeat_1360 7 rfl ?_
        refine V_goto (pc := 1362) (tgt := 1367) C dL_isSeat_1362 (by decide) ?_
        refine V_sub [] rfl ?_
        exact k_L_isSeat_1367 hT hl C hr hnm htab  h
    · refine V_ldc (pc := 1350) C g780 dL_isSeat_1350 ?_
      refine V_goto (pc := 1352) (tgt := 1367) C dL_isSeat_1352 (by decide) ?_
      refine V_sub [] rfl ?_
      exact k_L_isSeat_1367 hT hl C hr hnm htab  h
  · refine V_ldc (pc := 1340) C g779 dL_isSeat_1340 ?_
    refine V_goto (pc := 1342) (tgt := 1367) C dL_isSeat_1342 (by decide) ?_
    refine V_sub [] rfl ?_
    exact k_L_isSeat_1367 hT hl C hr hnm htab  h
def w_L_isSeat_1280  (Q : Nat → Int32 → Sg → Prop) : Nat → Int32 → Int32 → Int32 → Int32 → Int32 → Int32 → Int32 → Int32 → Int32 → Sg → Prop
  | 0, _, _, _, _, _, _, _, _, _, _ => False
  | n + 1, x13, x14, x19, x25, x26, x27, x28, x29, x30, S => ((x25 ≤ x30 → w_L_isSeat_1321  Q x13 x14 x19 x25 x26 x28 x29 S) ∧ (¬ x25 ≤ x30 → ((x28 = 0 → w_L_isSeat_1321  Q x13 x14 x19 x25 x26 x28 x29 S) ∧ (¬ x28 = 0 → (w_L_sells x13 (x27 + x30) x19 S (fun k29 v28 S27 => (k29 = 0 → w_L_isSeat_1280  Q n x13 x14 x19 x25 x26 x27 x28 x29 (x30 + 1) S27) ∧ (¬ k29 = 0 → Q k29 0 S27)))))))
theorem k_L_isSeat_1280 (hT : xT X = tb1) (hl : l.stackTraces = false) (C : Cn X k0 p l R s m meth c cL_isSeat RL 33 14 321) (hr : meth.sig.returnType = (some .boolean)) (hnm : meth.name = yL_isSeat.name) (htab : (∀ x ∈ c.exceptionTable.toList, False))  : ∀ n {x13 : Int32} {x14 : Int32} {x19 : Int32} {x25 : Int32} {x26 : Int32} {x27 : Int32} {x28 : Int32} {x29 : Int32} {x30 : Int32} {S : Sg}, w_L_isSeat_1280  Qa n x13 x14 x19 x25 x26 x27 x28 x29 x30 S → V X p l e R s m args below meth c 33 (QM X below args s S0 ad0 rvI Qa) S0 ad0 S 1280 [(0, Value.ref (enc 0 0)), (2, Value.ref (enc 13 4)), (3, Value.ref (enc 13 6)), (4, Value.ref (enc 13 7)), (5, Value.ref (enc 13 8)), (6, Value.ref (enc 13 9)), (9, Value.ref (enc 13 12)), (13, Value.int x13), (14, Value.int x14), (19, Value.int x19), (25, Value.int x25), (26, Value.int x26), (27, Value.int x27), (28, Value.int x28), (29, Value.int x29), (30, Value.int x30)] [] := by
  intro n
  induction n with
  | zero => intro x13 x14 x19 x25 x26 x27 x28 x29 x30 S h; exact h.elim
  | succ n ih =>
    intro x13 x14 x19 x25 x26 x27 x28 x29 x30 S h
    refine V_iload (pc := 1280) C dL_isSeat_1280 15 rfl ?_
    refine V_iload (pc := 1282) C dL_isSeat_1282 10 rfl ?_
    refine V_icmp_ge (pc := 1284) (tgt := 1321) C dL_isSeat_1284 (by decide) h (fun h => ?_) (fun h => ?_)
    · refine V_sub [0, 7, 8, 9, 10, 11, 13, 14] rfl ?_
      exact k_L_isSeat_1321 hT hl C hr hnm htab  h
    · refine V_iload (pc := 1287) C dL_isSeat_1287 13 rfl ?_
      refine V_if_eq (pc := 1289) (tgt := 1321) C dL_isSeat_1289 (by decide) h (fun h => ?_) (fun h => ?_)
      · refine V_sub [0, 7, 8, 9, 10, 11, 13, 14] rfl ?_
        exact k_L_isSeat_1321 hT hl C hr hnm htab  h
      · refine V_aload_n (pc := 1292) C dL_isSeat_1292 rfl 1 rfl ?_
        refine V_aload_n (pc := 1293) C dL_isSeat_1293 rfl 2 rfl ?_
        refine V_aload (pc := 1294) C dL_isSeat_1294 3 rfl ?_
        refine V_aload (pc := 1296) C dL_isSeat_1296 4 rfl ?_
        refine V_aload (pc := 1298) C dL_isSeat_1298 5 rfl ?_
        refine V_aload (pc := 1300) C dL_isSeat_1300 6 rfl ?_
        refine V_iload (pc := 1302) C dL_isSeat_1302 7 rfl ?_
        refine V_iload (pc := 1304) C dL_isSeat_1304 12 rfl ?_
        refine V_iload (pc := 1306) C dL_isSeat_1306 15 rfl ?_
        refine V_iadd (pc := 1308) C dL_isSeat_1308 ?_
        refine V_iload (pc := 1309) C dL_isSeat_1309 9 rfl ?_
        refine V_callS (pc := 1311) C (ct_L_sells hT hl h) g896 g897 g898 g32 ⟨by decide, by decide, pl_L_sells⟩ ⟨by decide, by decide⟩ (rest := []) rfl (le8 rfl) dL_isSeat_1311 (fun v28 S27 h => ?_) (fun k9 S9 hk h => VX_out C htab hk (h.2 (by omega)))
        replace h := h.1 rfl
        refine V_st (st' := [Value.int v28]) rfl ?_
        refine V_pop (pc := 1314) C dL_isSeat_1314 rfl ?_
        refine V_iinc (pc := 1315) C (a := 15) (v := x30 + 1) dL_isSeat_1315 rfl rfl (by decide) rfl ?_
        refine V_goto (pc := 1318) (tgt := 1280) C dL_isSeat_1318 (by decide) ?_
        refine V_sub [1, 2, 3, 4, 5, 6, 7, 8, 9, 10, 11, 12, 13, 14, 15, 0] rfl ?_
        exact ih h
def w_L_isSeat_1268  (Q : Nat → Int32 → Sg → Prop) (x13 : Int32) (x14 : Int32) (x19 : Int32) (x25 : Int32) (x26 : Int32) (x27 : Int32) (y0 : Int32) (S : Sg) : Prop := (vp_in 7 8 ∧ (∀ v30, v30 = S.1 112 (nt 7) → ∃ n9, w_L_isSeat_1280  Q n9 x13 x14 x19 x25 x26 x27 y0 v30 0 S))
theorem k_L_isSeat_1268 (hT : xT X = tb1) (hl : l.stackTraces = false) (C : Cn X k0 p l R s m meth c cL_isSeat RL 33 14 321) (hr : meth.sig.returnType = (some .boolean)) (hnm : meth.name = yL_isSeat.name) (htab : (∀ x ∈ c.exceptionTable.toList, False))  {x13 : Int32} {x14 : Int32} {x19 : Int32} {x25 : Int32} {x26 : Int32} {x27 : Int32} {y0 : Int32} {S : Sg} (h : w_L_isSeat_1268  Qa x13 x14 x19 x25 x26 x27 y0 S) : V X p l e R s m args below meth c 33 (QM X below args s S0 ad0 rvI Qa) S0 ad0 S 1268 [(0, Value.ref (enc 0 0)), (2, Value.ref (enc 13 4)), (3, Value.ref (enc 13 6)), (4, Value.ref (enc 13 7)), (5, Value.ref (enc 13 8)), (6, Value.ref (enc 13 9)), (9, Value.ref (enc 13 12)), (13, Value.int x13), (14, Value.int x14), (19, Value.int x19), (25, Value.int x25), (26, Value.int x26), (27, Value.int x27)] [Value.int y0] := by
  refine V_istore (pc := 1268) C dL_isSeat_1268 (by decide) rfl ?_
  refine V_aload (pc := 1270) C dL_isSeat_1270 7 rfl ?_
  refine V_bipush (pc := 1272) C (v := 7) dL_isSeat_1272 rfl ?_
  refine V_mld (pc := 1274) C hT tb1_arr (n := 8) (c9 := 112) rfl rfl rfl h dL_isSeat_1274 (fun h => ?_)
  refine V_nI fun v30 e9 => ?_
  replace h := h v30 e9; clear e9
  refine V_istore (pc := 1275) C dL_isSeat_1275 (by decide) rfl ?_
  refine V_iconst (pc := 1277) C (v := 0) dL_isSeat_1277 rfl ?_
  refine V_istore (pc := 1278) C dL_isSeat_1278 (by decide) rfl ?_
  refine V_sub [3, 4, 5, 6, 7, 8, 9, 10, 11, 12, 13, 14, 15, 2, 1, 0] rfl ?_
  obtain ⟨n9, h⟩ := h
  exact k_L_isSeat_1280 hT hl C hr hnm htab  n9 h
def w_L_isSeat_1267  (Q : Nat → Int32 → Sg → Prop) (x13 : Int32) (x14 : Int32) (x19 : Int32) (x25 : Int32) (x26 : Int32) (x27 : Int32) (S : Sg) : Prop := w_L_isSeat_1268  Q x13 x14 x19 x25 x26 x27 0 S
theorem k_L_isSeat_1267 (hT : xT X = tb1) (hl : l.stackTraces = false) (C : Cn X k0 p l R s m meth c cL_isSeat RL 33 14 321) (hr : meth.sig.returnType = (some .boolean)) (hnm : meth.name = yL_isSeat.name) (htab : (∀ x ∈ c.exceptionTable.toList, False))  {x13 : Int32} {x14 : Int32} {x19 : Int32} {x25 : Int32} {x26 : Int32} {x27 : Int32} {S : Sg} (h : w_L_isSeat_1267  Qa x13 x14 x19 x25 x26 x27 S) : V X p l e R s m args below meth c 33 (QM X below args s S0 ad0 rvI Qa) S0 ad0 S 1267 [(0, Value.ref (enc 0 0)), (2, Value.ref (enc 13 4)), (3, Value.ref (enc 13 6)), (4, Value.ref (enc 13 7)), (5, Value.ref (enc 13 8)), (6, Value.ref (enc 13 9)), (9, Value.ref (enc 13 12)), (13, Value.int x13), (14, Value.int x14), (19, Value.int x19), (25, Value.int x25), (26, Value.int x26), (27, Value.int x27)] [] := by
  refine V_iconst (pc := 1267) C (v := 0) dL_isSeat_1267 rfl ?_
  refine V_sub [0, 1, 2, 3, 4, 5, 6, 7, 8, 9, 10, 11, 12] rfl ?_
  exact k_L_isSeat_1268 hT hl C hr hnm htab  h
def w_L_isSeat_1253  (Q : Nat → Int32 → Sg → Prop) (x13 : Int32) (x14 : Int32) (x19 : Int32) (x22 : Int32) (x25 : Int32) (x26 : Int32) (x27 : Int32) (S : Sg) : Prop := ((x27 < 0 → w_L_isSeat_1267  Q x13 x14 x19 x25 x26 x27 S) ∧ (¬ x27 < 0 → ((x22 = 0 → w_L_isSeat_1267  Q x13 x14 x19 x25 x26 x27 S) ∧ (¬ x22 = 0 → w_L_isSeat_1268  Q x13 x14 x19 x25 x26 x27 1 S))))
theorem k_L_isSeat_1253 (hT : xT X = tb1) (hl : l.stackTraces = false) (C : Cn X k0 p l R s m meth c cL_isSeat RL 33 14 321) (hr : meth.sig.returnType = (some .boolean)) (hnm : meth.name = yL_isSeat.name) (htab : (∀ x ∈ c.exceptionTable.toList, False))  {x13 : Int32} {x14 : Int32} {x19 : Int32} {x22 : Int32} {x25 : Int32} {x26 : Int32} {x27 : Int32} {S : Sg} (h : w_L_isSeat_1253  Qa x13 x14 x19 x22 x25 x26 x27 S) : V X p l e R s m args below meth c 33 (QM X below args s S0 ad0 rvI Qa) S0 ad0 S 1253 [(0, Value.ref (enc 0 0)), (2, Value.ref (enc 13 4)), (3, Value.ref (enc 13 6)), (4, Value.ref (enc 13 7)), (5, Value.ref (enc 13 8)), (6, Value.ref (enc 13 9)), (9, Value.ref (enc 13 12)), (13, Value.int x13), (14, Value.int x14), (19, Value.int x19), (22, Value.int x22), (25, Value.int x25), (26, Value.int x26), (27, Value.int x27)] [] := by
  refine V_iload (pc := 1253) C dL_isSeat_1253 13 rfl ?_
  refine V_if_lt (pc := 1255) (tgt := 1267) C dL_isSeat_1255 (by decide) h (fun h => ?_) (fun h => ?_)
  · refine V_sub [0, 1, 2, 3, 4, 5, 6, 7, 8, 9, 11, 12, 13] rfl ?_
    exact k_L_isSeat_1267 hT hl C hr hnm htab  h
  · refine V_iload (pc := 1258) C dL_isSeat_1258 10 rfl ?_
    refine V_if_eq (pc := 1260) (tgt := 1267) C dL_isSeat_1260 (by decide) h (fun h => ?_) (fun h => ?_)
    · refine V_sub [0, 1, 2, 3, 4, 5, 6, 7, 8, 9, 11, 12, 13] rfl ?_
      exact k_L_isSeat_1267 hT hl C hr hnm htab  h
    · refine V_iconst (pc := 1263) C (v := 1) dL_isSeat_1263 rfl ?_
      refine V_goto (pc := 1264) (tgt := 1268) C dL_isSeat_1264 (by decide) ?_
      refine V_sub [0, 1, 2, 3, 4, 5, 6, 7, 8, 9, 11, 12, 13] rfl ?_
      exact k_L_isSeat_1268 hT hl C hr hnm htab  h
def w_L_isSeat_1239 (k1049 : Int32 → Int32 → Int32 → Int32 → Int32 → Int32 → Int32 → Int32 → Int32 → Int32 → Sg → Prop) (k1083 : Int32 → Int32 → Int32 → Int32 → Int32 → Int32 → Int32 → Int32 → Int32 → Int32 → Int32 → Int32 → Sg → Prop) (Q : Nat → Int32 → Sg → Prop) (x13 : Int32) (x14 : Int32) (x15 : Int32) (x16 : Int32) (x19 : Int32) (x22 : Int32) (x25 : Int32) (x26 : Int32) (x27 : Int32) (x28 : Int32) (x30 : Int32) (y0 : Int32) (S : Sg) : Prop := k1083 x13 x14 x15 x16 x19 x22 x25 x26 x27 x28 y0 (x30 + (-1)) S
theorem k_L_isSeat_1239 (hT : xT X = tb1) (hl : l.stackTraces = false) (C : Cn X k0 p l R s m meth c cL_isSeat RL 33 14 321) (hr : meth.sig.returnType = (some .boolean)) (hnm : meth.name = yL_isSeat.name) (htab : (∀ x ∈ c.exceptionTable.toList, False)) {k1049 : Int32 → Int32 → Int32 → Int32 → Int32 → Int32 → Int32 → Int32 → Int32 → Int32 → Sg → Prop} (hk1049 : ∀ {x13 : Int32} {x14 : Int32} {x15 : Int32} {x16 : Int32} {x19 : Int32} {x22 : Int32} {x25 : Int32} {x26 : Int32} {x27 : Int32} {x28 : Int32} {S : Sg}, k1049 x13 x14 x15 x16 x19 x22 x25 x26 x27 x28 S → V X p l e R s m args below meth c 33 (QM X below args s S0 ad0 rvI Qa) S0 ad0 S 1049 [(0, Value.ref (enc 0 0)), (2, Value.ref (enc 13 4)), (3, Value.ref (enc 13 6)), (4, Value.ref (enc 13 7)), (5, Value.ref (enc 13 8)), (6, Value.ref (enc 13 9)), (9, Value.ref (enc 13 12)), (13, Value.int x13), (14, Value.int x14), (15, Value.int x15), (16, Value.int x16), (19, Value.int x19), (22, Value.int x22), (25, Value.int x25), (26, Value.int x26), (27, Value.int x27), (28, Value.int x28)] []) {k1083 : Int32 → Int32 → Int32 → Int32 → Int32 → Int32 → Int32 → Int32 → Int32 → Int32 → Int32 → Int32 → Sg → Prop} (hk1083 : ∀ {x13 : Int32} {x14 : Int32} {x15 : Int32} {x16 : Int32} {x19 : Int32} {x22 : Int32} {x25 : Int32} {x26 : Int32} {x27 : Int32} {x28 : Int32} {x29 : Int32} {x30 : Int32} {S : Sg}, k1083 x13 x14 x15 x16 x19 x22 x25 x26 x27 x28 x29 x30 S → V X p l e R s m args below meth c 33 (QM X below args s S0 ad0 rvI Qa) S0 ad0 S 1083 [(0, Value.ref (enc 0 0)), (2, Value.ref (enc 13 4)), (3, Value.ref (enc 13 6)), (4, Value.ref (enc 13 7)), (5, Value.ref (enc 13 8)), (6, Value.ref (enc 13 9)), (9, Value.ref (enc 13 12)), (13, Value.int x13), (14, Value.int x14), (15, Value.int x15), (16, Value.int x16), (19, Value.int x19), (22, Value.int x22), (25, Value.int x25), (26, Value.int x26), (27, Value.int x27), (28, Value.int x28), (29, Value.int x29), (30, Value.int x30)] []) {x13 : Int32} {x14 : Int32} {x15 : Int32} {x16 : Int32} {x19 : Int32} {x22 : Int32} {x25 : Int32} {x26 : Int32} {x27 : Int32} {x28 : Int32} {x30 : Int32} {y0 : Int32} {S : Sg} (h : w_L_isSeat_1239 k1049 k1083 Qa x13 x14 x15 x16 x19 x22 x25 x26 x27 x28 x30 y0 S) : V X p l e R s m args below meth c 33 (QM X below args s S0 ad0 rvI Qa) S0 ad0 S 1239 [(0, Value.ref (enc 0 0)), (2, Value.ref (enc 13 4)), (3, Value.ref (enc 13 6)), (4, Value.ref (enc 13 7)), (5, Value.ref (enc 13 8)), (6, Value.ref (enc 13 9)), (9, Value.ref (enc 13 12)), (13, Value.int x13), (14, Value.int x14), (15, Value.int x15), (16, Value.int x16), (19, Value.int x19), (22, Value.int x22), (25, Value.int x25), (26, Value.int x26), (27, Value.int x27), (28, Value.int x28), (30, Value.int x30)] [Value.int y0] := by
  refine V_istore (pc := 1239) C dL_isSeat_1239 (by decide) rfl ?_
  refine V_iinc (pc := 1241) C (a := 18) (v := x30 + (-1)) dL_isSeat_1241 rfl rfl (by decide) rfl ?_
  refine V_goto (pc := 1244) (tgt := 1083) C dL_isSeat_1244 (by decide) ?_
  refine V_sub [2, 3, 4, 5, 6, 7, 8, 9, 10, 11, 12, 13, 14, 15, 16, 17, 18, 1, 0] rfl ?_
  exact hk1083 h
def w_L_isSeat_1237 (k1049 : Int32 → Int32 → Int32 → Int32 → Int32 → Int32 → Int32 → Int32 → Int32 → Int32 → Sg → Prop) (k1083 : Int32 → Int32 → Int32 → Int32 → Int32 → Int32 → Int32 → Int32 → Int32 → Int32 → Int32 → Int32 → Sg → Prop) (Q : Nat → Int32 → Sg → Prop) (x13 : Int32) (x14 : Int32) (x15 : Int32) (x16 : Int32) (x19 : Int32) (x22 : Int32) (x25 : Int32) (x26 : Int32) (x27 : Int32) (x28 : Int32) (x29 : Int32) (x30 : Int32) (S : Sg) : Prop := w_L_isSeat_1239 k1049 k1083 Q x13 x14 x15 x16 x19 x22 x25 x26 x27 x28 x30 x29 S
theorem k_L_isSeat_1237 (hT : xT X = tb1) (hl : l.stackTraces = false) (C : Cn X k0 p l R s m meth c cL_isSeat RL 33 14 321) (hr : meth.sig.returnType = (some .boolean)) (hnm : meth.name = yL_isSeat.name) (htab : (∀ x ∈ c.exceptionTable.toList, False)) {k1049 : Int32 → Int32 → Int32 → Int32 → Int32 → Int32 → Int32 → Int32 → Int32 → Int32 → Sg → Prop} (hk1049 : ∀ {x13 : Int32} {x14 : Int32} {x15 : Int32} {x16 : Int32} {x19 : Int32} {x22 : Int32} {x25 : Int32} {x26 : Int32} {x27 : Int32} {x28 : Int32} {S : Sg}, k1049 x13 x14 x15 x16 x19 x22 x25 x26 x27 x28 S → V X p l e R s m args below meth c 33 (QM X below args s S0 ad0 rvI Qa) S0 ad0 S 1049 [(0, Value.ref (enc 0 0)), (2, Value.ref (enc 13 4)), (3, Value.ref (enc 13 6)), (4, Value.ref (enc 13 7)), (5, Value.ref (enc 13 8)), (6, Value.ref (enc 13 9)), (9, Value.ref (enc 13 12)), (13, Value.int x13), (14, Value.int x14), (15, Value.int x15), (16, Value.int x16), (19, Value.int x19), (22, Value.int x22), (25, Value.int x25), (26, Value.int x26), (27, Value.int x27), (28, Value.int x28)] []) {k1083 : Int32 → Int32 → Int32 → Int32 → Int32 → Int32 → Int32 → Int32 → Int32 → Int32 → Int32 → Int32 → Sg → Prop} (hk1083 : ∀ {x13 : Int32} {x14 : Int32} {x15 : Int32} {x16 : Int32} {x19 : Int32} {x22 : Int32} {x25 : Int32} {x26 : Int32} {x27 : Int32} {x28 : Int32} {x29 : Int32} {x30 : Int32} {S : Sg}, k1083 x13 x14 x15 x16 x19 x22 x25 x26 x27 x28 x29 x30 S → V X p l e R s m args below meth c 33 (QM X below args s S0 ad0 rvI Qa) S0 ad0 S 1083 [(0, Value.ref (enc 0 0)), (2, Value.ref (enc 13 4)), (3, Value.ref (enc 13 6)), (4, Value.ref (enc 13 7)), (5, Value.ref (enc 13 8)), (6, Value.ref (enc 13 9)), (9, Value.ref (enc 13 12)), (13, Value.int x13), (14, Value.int x14), (15, Value.int x15), (16, Value.int x16), (19, Value.int x19), (22, Value.int x22), (25, Value.int x25), (26, Value.int x26), (27, Value.int x27), (28, Value.int x28), (29, Value.int x29), (30, Value.int x30)] []) {x13 : Int32} {x14 : Int32} {x15 : Int32} {x16 : Int32} {x19 : Int32} {x22 : Int32} {x25 : Int32} {x26 : Int32} {x27 : Int32} {x28 : Int32} {x29 : Int32} {x30 : Int32} {S : Sg} (h : w_L_isSeat_1237 k1049 k1083 Qa x13 x14 x15 x16 x19 x22 x25 x26 x27 x28 x29 x30 S) : V X p l e R s m args below meth c 33 (QM X below args s S0 ad0 rvI Qa) S0 ad0 S 1237 [(0, Value.ref (enc 0 0)), (2, Value.ref (enc 13 4)), (3, Value.ref (enc 13 6)), (4, Value.ref (enc 13 7)), (5, Value.ref (enc 13 8)), (6, Value.ref (enc 13 9)), (9, Value.ref (enc 13 12)), (13, Value.int x13), (14, Value.int x14), (15, Value.int x15), (16, Value.int x16), (19, Value.int x19), (22, Value.int x22), (25, Value.int x25), (26, Value.int x26), (27, Value.int x27), (28, Value.int x28), (29, Value.int x29), (30, Value.int x30)] [] := by
  refine V_iload (pc := 1237) C dL_isSeat_1237 17 rfl ?_
  refine V_sub [0, 1, 2, 3, 4, 5, 6, 7, 8, 9, 10, 11, 12, 13, 14, 15, 16, 18] rfl ?_
  exact k_L_isSeat_1239 hT hl C hr hnm htab (fun h => hk1049 h) (fun h => hk1083 h) h
def w_L_isSeat_1218 (k1049 : Int32 → Int32 → Int32 → Int32 → Int32 → Int32 → Int32 → Int32 → Int32 → Int32 → Sg → Prop) (k1083 : Int32 → Int32 → Int32 → Int32 → Int32 → Int32 → Int32 → Int32 → Int32 → Int32 → Int32 → Int32 → Sg → Prop) (Q : Nat → Int32 → Sg → Prop) (x13 : Int32) (x14 : Int32) (x15 : Int32) (x16 : Int32) (x19 : Int32) (x22 : Int32) (x25 : Int32) (x26 : Int32) (x28 : Int32) (x29 : Int32) (x30 : Int32) (x31 : Int32) (x32 : Int32) (y0 : Int32) (S : Sg) : Prop := ((x31 = 0 → w_L_isSeat_1237 k1049 k1083 Q x13 x14 x15 x16 x19 x22 x25 x26 y0 x28 x29 x30 S) ∧ (¬ x31 = 0 → ((x29 < x32 → w_L_isSeat_1237 k1049 k1083 Q x13 x14 x15 x16 x19 x22 x25 x26 y0 x28 x29 x30 S) ∧ (¬ x29 < x32 → w_L_isSeat_1239 k1049 k1083 Q x13 x14 x15 x16 x19 x22 x25 x26 y0 x28 x30 x32 S))))
theorem k_L_isSeat_1218 (hT : xT X = tb1) (hl : l.stackTraces = false) (C : Cn X k0 p l R s m meth c cL_isSeat RL 33 14 321) (hr : meth.sig.returnType = (some .boolean)) (hnm : meth.name = yL_isSeat.name) (htab : (∀ x ∈ c.exceptionTable.toList, False)) {k1049 : Int32 → Int32 → Int32 → Int32 → Int32 → Int32 → Int32 → Int32 → Int32 → Int32 → Sg → Prop} (hk1049 : ∀ {x13 : Int32} {x14 : Int32} {x15 : Int32} {x16 : Int32} {x19 : Int32} {x22 : Int32} {x25 : Int32} {x26 : Int32} {x27 : Int32} {x28 : Int32} {S : Sg}, k1049 x13 x14 x15 x16 x19 x22 x25 x26 x27 x28 S → V X p l e R s m args below meth c 33 (QM X below args s S0 ad0 rvI Qa) S0 ad0 S 1049 [(0, Value.ref (enc 0 0)), (2, Value.ref (enc 13 4)), (3, Value.ref (enc 13 6)), (4, Value.ref (enc 13 7)), (5, Value.ref (enc 13 8)), (6, Value.ref (enc 13 9)), (9, Value.ref (enc 13 12)), (13, Value.int x13), (14, Value.int x14), (15, Value.int x15), (16, Value.int x16), (19, Value.int x19), (22, Value.int x22), (25, Value.int x25), (26, Value.int x26), (27, Value.int x27), (28, Value.int x28)] []) {k1083 : Int32 → Int32 → Int32 → Int32 → Int32 → Int32 → Int32 → Int32 → Int32 → Int32 → Int32 → Int32 → Sg → Prop} (hk1083 : ∀ {x13 : Int32} {x14 : Int32} {x15 : Int32} {x16 : Int32} {x19 : Int32} {x22 : Int32} {x25 : Int32} {x26 : Int32} {x27 : Int32} {x28 : Int32} {x29 : Int32} {x30 : Int32} {S : Sg}, k1083 x13 x14 x15 x16 x19 x22 x25 x26 x27 x28 x29 x30 S → V X p l e R s m args below meth c 33 (QM X below args s S0 ad0 rvI Qa) S0 ad0 S 1083 [(0, Value.ref (enc 0 0)), (2, Value.ref (enc 13 4)), (3, Value.ref (enc 13 6)), (4, Value.ref (enc 13 7)), (5, Value.ref (enc 13 8)), (6, Value.ref (enc 13 9)), (9, Value.ref (enc 13 12)), (13, Value.int x13), (14, Value.int x14), (15, Value.int x15), (16, Value.int x16), (19, Value.int x19), (22, Value.int x22), (25, Value.int x25), (26, Value.int x26), (27, Value.int x27), (28, Value.int x28), (29, Value.int x29), (30, Value.int x30)] []) {x13 : Int32} {x14 : Int32} {x15 : Int32} {x16 : Int32} {x19 : Int32} {x22 : Int32} {x25 : Int32} {x26 : Int32} {x28 : Int32} {x29 : Int32} {x30 : Int32} {x31 : Int32} {x32 : Int32} {y0 : Int32} {S : Sg} (h : w_L_isSeat_1218 k1049 k1083 Qa x13 x14 x15 x16 x19 x22 x25 x26 x28 x29 x30 x31 x32 y0 S) : V X p l e R s m args below meth c 33 (QM X below args s S0 ad0 rvI Qa) S0 ad0 S 1218 [(0, Value.ref (enc 0 0)), (2, Value.ref (enc 13 4)), (3, Value.ref (enc 13 6)), (4, Value.ref (enc 13 7)), (5, Value.ref (enc 13 8)), (6, Value.ref (enc 13 9)), (9, Value.ref (enc 13 12)), (13, Value.int x13), (14, Value.int x14), (15, Value.int x15), (16, Value.int x16), (19, Value.int x19), (22, Value.int x22), (25, Value.int x25), (26, Value.int x26), (28, Value.int x28), (29, Value.int x29), (30, Value.int x30), (31, Value.int x31), (32, Value.int x32)] [Value.int y0] := by
  refine V_istore (pc := 1218) C dL_isSeat_1218 (by decide) rfl ?_
  refine V_iload (pc := 1220) C dL_isSeat_1220 19 rfl ?_
  refine V_if_eq (pc := 1222) (tgt := 1237) C dL_isSeat_1222 (by decide) h (fun h => ?_) (fun h => ?_)
  · refine V_sub [1, 2, 3, 4, 5, 6, 7, 8, 9, 10, 11, 12, 13, 14, 15, 0, 16, 17, 18] rfl ?_
    exact k_L_isSeat_1237 hT hl C hr hnm htab (fun h => hk1049 h) (fun h => hk1083 h) h
  · refine V_iload (pc := 1225) C dL_isSeat_1225 20 rfl ?_
    refine V_iload (pc := 1227) C dL_isSeat_1227 17 rfl ?_
    refine V_icmp_gt (pc := 1229) (tgt := 1237) C dL_isSeat_1229 (by decide) h (fun h => ?_) (fun h => ?_)
    · refine V_sub [1, 2, 3, 4, 5, 6, 7, 8, 9, 10, 11, 12, 13, 14, 15, 0, 16, 17, 18] rfl ?_
      exact k_L_isSeat_1237 hT hl C hr hnm htab (fun h => hk1049 h) (fun h => hk1083 h) h
    · refine V_iload (pc := 1232) C dL_isSeat_1232 20 rfl ?_
      refine V_goto (pc := 1234) (tgt := 1239) C dL_isSeat_1234 (by decide) ?_
      refine V_sub [1, 2, 3, 4, 5, 6, 7, 8, 9, 10, 11, 12, 13, 14, 15, 0, 16, 18] rfl ?_
      exact k_L_isSeat_1239 hT hl C hr hnm htab (fun h => hk1049 h) (fun h => hk1083 h) h
def w_L_isSeat_1216 (k1049 : Int32 → Int32 → Int32 → Int32 → Int32 → Int32 → Int32 → Int32 → Int32 → Int32 → Sg → Prop) (k1083 : Int32 → Int32 → Int32 → Int32 → Int32 → Int32 → Int32 → Int32 → Int32 → Int32 → Int32 → Int32 → Sg → Prop) (Q : Nat → Int32 → Sg → Prop) (x13 : Int32) (x14 : Int32) (x15 : Int32) (x16 : Int32) (x19 : Int32) (x22 : Int32) (x25 : Int32) (x26 : Int32) (x27 : Int32) (x28 : Int32) (x29 : Int32) (x30 : Int32) (x31 : Int32) (x32 : Int32) (S : Sg) : Prop := w_L_isSeat_1218 k1049 k1083 Q x13 x14 x15 x16 x19 x22 x25 x26 x28 x29 x30 x31 x32 x27 S
theorem k_L_isSeat_1216 (hT : xT X = tb1) (hl : l.stackTraces = false) (C : Cn X k0 p l R s m meth c cL_isSeat RL 33 14 321) (hr : meth.sig.returnType = (some .boolean)) (hnm : meth.name = yL_isSeat.name) (htab : (∀ x ∈ c.exceptionTable.toList, False)) {k1049 : Int32 → Int32 → Int32 → Int32 → Int32 → Int32 → Int32 → Int32 → Int32 → Int32 → Sg → Prop} (hk1049 : ∀ {x13 : Int32} {x14 : Int32} {x15 : Int32} {x16 : Int32} {x19 : Int32} {x22 : Int32} {x25 : Int32} {x26 : Int32} {x27 : Int32} {x28 : Int32} {S : Sg}, k1049 x13 x14 x15 x16 x19 x22 x25 x26 x27 x28 S → V X p l e R s m args below meth c 33 (QM X below args s S0 ad0 rvI Qa) S0 ad0 S 1049 [(0, Value.ref (enc 0 0)), (2, Value.ref (enc 13 4)), (3, Value.ref (enc 13 6)), (4, Value.ref (enc 13 7)), (5, Value.ref (enc 13 8)), (6, Value.ref (enc 13 9)), (9, Value.ref (enc 13 12)), (13, Value.int x13), (14, Value.int x14), (15, Value.int x15), (16, Value.int x16), (19, Value.int x19), (22, Value.int x22), (25, Value.int x25), (26, Value.int x26), (27, Value.int x27), (28, Value.int x28)] []) {k1083 : Int32 → Int32 → Int32 → Int32 → Int32 → Int32 → Int32 → Int32 → Int32 → Int32 → Int32 → Int32 → Sg → Prop} (hk1083 : ∀ {x13 : Int32} {x14 : Int32} {x15 : Int32} {x16 : Int32} {x19 : Int32} {x22 : Int32} {x25 : Int32} {x26 : Int32} {x27 : Int32} {x28 : Int32} {x29 : Int32} {x30 : Int32} {S : Sg}, k1083 x13 x14 x15 x16 x19 x22 x25 x26 x27 x28 x29 x30 S → V X p l e R s m args below meth c 33 (QM X below args s S0 ad0 rvI Qa) S0 ad0 S 1083 [(0, Value.ref (enc 0 0)), (2, Value.ref (enc 13 4)), (3, Value.ref (enc 13 6)), (4, Value.ref (enc 13 7)), (5, Value.ref (enc 13 8)), (6, Value.ref (enc 13 9)), (9, Value.ref (enc 13 12)), (13, Value.int x13), (14, Value.int x14), (15, Value.int x15), (16, Value.int x16), (19, Value.int x19), (22, Value.int x22), (25, Value.int x25), (26, Value.int x26), (27, Value.int x27), (28, Value.int x28), (29, Value.int x29), (30, Value.int x30)] []) {x13 : Int32} {x14 : Int32} {x15 : Int32} {x16 : Int32} {x19 : Int32} {x22 : Int32} {x25 : Int32} {x26 : Int32} {x27 : Int32} {x28 : Int32} {x29 : Int32} {x30 : Int32} {x31 : Int32} {x32 : Int32} {S : Sg} (h : w_L_isSeat_1216 k1049 k1083 Qa x13 x14 x15 x16 x19 x22 x25 x26 x27 x28 x29 x30 x31 x32 S) : V X p l e R s m args below meth c 33 (QM X below args s S0 ad0 rvI Qa) S0 ad0 S 1216 [(0, Value.ref (enc 0 0)), (2, Value.ref (enc 13 4)), (3, Value.ref (enc 13 6)), (4, Value.ref (enc 13 7)), (5, Value.ref (enc 13 8)), (6, Value.ref (enc 13 9)), (9, Value.ref (enc 13 12)), (13, Value.int x13), (14, Value.int x14), (15, Value.int x15), (16, Value.int x16), (19, Value.int x19), (22, Value.int x22), (25, Value.int x25), (26, Value.int x26), (27, Value.int x27), (28, Value.int x28), (29, Value.int x29), (30, Value.int x30), (31, Value.int x31), (32, Value.int x32)] [] := by
  refine V_iload (pc := 1216) C dL_isSeat_1216 15 rfl ?_
  refine V_sub [0, 1, 2, 3, 4, 5, 6, 7, 8, 9, 10, 11, 12, 13, 14, 16, 17, 18, 19, 20] rfl ?_
  exact k_L_isSeat_1218 hT hl C hr hnm htab (fun h => hk1049 h) (fun h => hk1083 h) h
def w_L_isSeat_1191 (k1049 : Int32 → Int32 → Int32 → Int32 → Int32 → Int32 → Int32 → Int32 → Int32 → Int32 → Sg → Prop) (k1083 : Int32 → Int32 → Int32 → Int32 → Int32 → Int32 → Int32 → Int32 → Int32 → Int32 → Int32 → Int32 → Sg → Prop) (Q : Nat → Int32 → Sg → Prop) (x13 : Int32) (x14 : Int32) (x15 : Int32) (x16 : Int32) (x19 : Int32) (x22 : Int32) (x25 : Int32) (x26 : Int32) (x27 : Int32) (x28 : Int32) (x29 : Int32) (x30 : Int32) (x31 : Int32) (y0 : Int32) (S : Sg) : Prop := ((x31 = 0 → w_L_isSeat_1216 k1049 k1083 Q x13 x14 x15 x16 x19 x22 x25 x26 x27 x28 x29 x30 x31 y0 S) ∧ (¬ x31 = 0 → ((x29 < y0 → w_L_isSeat_1216 k1049 k1083 Q x13 x14 x15 x16 x19 x22 x25 x26 x27 x28 x29 x30 x31 y0 S) ∧ (¬ x29 < y0 → w_L_isSeat_1218 k1049 k1083 Q x13 x14 x15 x16 x19 x22 x25 x26 x28 x29 x30 x31 y0 ((x16 * x28) + x30) S))))
theorem k_L_isSeat_1191 (hT : xT X = tb1) (hl : l.stackTraces = false) (C : Cn X k0 p l R s m meth c cL_isSeat RL 33 14 321) (hr : meth.sig.returnType = (some .boolean)) (hnm : meth.name = yL_isSeat.name) (htab : (∀ x ∈ c.exceptionTable.toList, False)) {k1049 : Int32 → Int32 → Int32 → Int32 → Int32 → Int32 → Int32 → Int32 → Int32 → Int32 → Sg → Prop} (hk1049 : ∀ {x13 : Int32} {x14 : Int32} {x15 : Int32} {x16 : Int32} {x19 : Int32} {x22 : Int32} {x25 : Int32} {x26 : Int32} {x27 : Int32} {x28 : Int32} {S : Sg}, k1049 x13 x14 x15 x16 x19 x22 x25 x26 x27 x28 S → V X p l e R s m args below meth c 33 (QM X below args s S0 ad0 rvI Qa) S0 ad0 S 1049 [(0, Value.ref (enc 0 0)), (2, Value.ref (enc 13 4)), (3, Value.ref (enc 13 6)), (4, Value.ref (enc 13 7)), (5, Value.ref (enc 13 8)), (6, Value.ref (enc 13 9)), (9, Value.ref (enc 13 12)), (13, Value.int x13), (14, Value.int x14), (15, Value.int x15), (16, Value.int x16), (19, Value.int x19), (22, Value.int x22), (25, Value.int x25), (26, Value.int x26), (27, Value.int x27), (28, Value.int x28)] []) {k1083 : Int32 → Int32 → Int32 → Int32 → Int32 → Int32 → Int32 → Int32 → Int32 → Int32 → Int32 → Int32 → Sg → Prop} (hk1083 : ∀ {x13 : Int32} {x14 : Int32} {x15 : Int32} {x16 : Int32} {x19 : Int32} {x22 : Int32} {x25 : Int32} {x26 : Int32} {x27 : Int32} {x28 : Int32} {x29 : Int32} {x30 : Int32} {S : Sg}, k1083 x13 x14 x15 x16 x19 x22 x25 x26 x27 x28 x29 x30 S → V X p l e R s m args below meth c 33 (QM X below args s S0 ad0 rvI Qa) S0 ad0 S 1083 [(0, Value.ref (enc 0 0)), (2, Value.ref (enc 13 4)), (3, Value.ref (enc 13 6)), (4, Value.ref (enc 13 7)), (5, Value.ref (enc 13 8)), (6, Value.ref (enc 13 9)), (9, Value.ref (enc 13 12)), (13, Value.int x13), (14, Value.int x14), (15, Value.int x15), (16, Value.int x16), (19, Value.int x19), (22, Value.int x22), (25, Value.int x25), (26, Value.int x26), (27, Value.int x27), (28, Value.int x28), (29, Value.int x29), (30, Value.int x30)] []) {x13 : Int32} {x14 : Int32} {x15 : Int32} {x16 : Int32} {x19 : Int32} {x22 : Int32} {x25 : Int32} {x26 : Int32} {x27 : Int32} {x28 : Int32} {x29 : Int32} {x30 : Int32} {x31 : Int32} {y0 : Int32} {S : Sg} (h : w_L_isSeat_1191 k1049 k1083 Qa x13 x14 x15 x16 x19 x22 x25 x26 x27 x28 x29 x30 x31 y0 S) : V X p l e R s m args below meth c 33 (QM X below args s S0 ad0 rvI Qa) S0 ad0 S 1191 [(0, Value.ref (enc 0 0)), (2, Value.ref (enc 13 4)), (3, Value.ref (enc 13 6)), (4, Value.ref (enc 13 7)), (5, Value.ref (enc 13 8)), (6, Value.ref (enc 13 9)), (9, Value.ref (enc 13 12)), (13, Value.int x13), (14, Value.int x14), (15, Value.int x15), (16, Value.int x16), (19, Value.int x19), (22, Value.int x22), (25, Value.int x25), (26, Value.int x26), (27, Value.int x27), (28, Value.int x28), (29, Value.int x29), (30, Value.int x30), (31, Value.int x31)] [Value.int y0] := by
  refine V_istore (pc := 1191) C dL_isSeat_1191 (by decide) rfl ?_
  refine V_iload (pc := 1193) C dL_isSeat_1193 20 rfl ?_
  refine V_if_eq (pc := 1195) (tgt := 1216) C dL_isSeat_1195 (by decide) h (fun h => ?_) (fun h => ?_)
  · refine V_sub [1, 2, 3, 4, 5, 6, 7, 8, 9, 10, 11, 12, 13, 14, 15, 16, 17, 18, 19, 20, 0] rfl ?_
    exact k_L_isSeat_1216 hT hl C hr hnm htab (fun h => hk1049 h) (fun h => hk1083 h) h
  · refine V_iload (pc := 1198) C dL_isSeat_1198 0 rfl ?_
    refine V_iload (pc := 1200) C dL_isSeat_1200 18 rfl ?_
    refine V_icmp_gt (pc := 1202) (tgt := 1216) C dL_isSeat_1202 (by decide) h (fun h => ?_) (fun h => ?_)
    · refine V_sub [1, 2, 3, 4, 5, 6, 7, 8, 9, 10, 11, 12, 13, 14, 15, 16, 17, 18, 19, 20, 0] rfl ?_
      exact k_L_isSeat_1216 hT hl C hr hnm htab (fun h => hk1049 h) (fun h => hk1083 h) h
    · refine V_iload (pc := 1205) C dL_isSeat_1205 11 rfl ?_
      refine V_iload (pc := 1207) C dL_isSeat_1207 17 rfl ?_
      refine V_imul (pc := 1209) C dL_isSeat_1209 ?_
      refine V_iload (pc := 1210) C dL_isSeat_1210 19 rfl ?_
      refine V_iadd (pc := 1212) C dL_isSeat_1212 ?_
      refine V_goto (pc := 1213) (tgt := 1218) C dL_isSeat_1213 (by decide) ?_
      refine V_sub [1, 2, 3, 4, 5, 6, 7, 8, 9, 10, 11, 12, 13, 14, 15, 17, 18, 19, 20, 0] rfl ?_
      exact k_L_isSeat_1218 hT hl C hr hnm htab (fun h => hk1049 h) (fun h => hk1083 h) h
def w_L_isSeat_1148 (k1049 : Int32 → Int32 → Int32 → Int32 → Int32 → Int32 → Int32 → Int32 → Int32 → Int32 → Sg → Prop) (k1083 : Int32 → Int32 → Int32 → Int32 → Int32 → Int32 → Int32 → Int32 → Int32 → Int32 → Int32 → Int32 → Sg → Prop) (k1108 : Int32 → Int32 → Int32 → Int32 → Int32 → Int32 → Int32 → Int32 → Int32 → Int32 → Int32 → Int32 → Int32 → Int32 → Sg → Prop) (Q : Nat → Int32 → Sg → Prop) (x13 : Int32) (x14 : Int32) (x15 : Int32) (x16 : Int32) (x19 : Int32) (x22 : Int32) (x25 : Int32) (x26 : Int32) (x27 : Int32) (x28 : Int32) (x29 : Int32) (x30 : Int32) (x32 : Int32) (y0 : Int32) (S : Sg) : Prop := k1108 x13 x14 x15 x16 x19 x22 x25 x26 x27 x28 x29 x30 y0 (x32 + 1) S
theorem k_L_isSeat_1148 (hT : xT X = tb1) (hl : l.stackTraces = false) (C : Cn X k0 p l R s m meth c cL_isSeat RL 33 14 321) (hr : meth.sig.returnType = (some .boolean)) (hnm : meth.name = yL_isSeat.name) (htab : (∀ x ∈ c.exceptionTable.toList, False)) {k1049 : Int32 → Int32 → Int32 → Int32 → Int32 → Int32 → Int32 → Int32 → Int32 → Int32 → Sg → Prop} (hk1049 : ∀ {x13 : Int32} {x14 : Int32} {x15 : Int32} {x16 : Int32} {x19 : Int32} {x22 : Int32} {x25 : Int32} {x26 : Int32} {x27 : Int32} {x28 : Int32} {S : Sg}, k1049 x13 x14 x15 x16 x19 x22 x25 x26 x27 x28 S → V X p l e R s m args below meth c 33 (QM X below args s S0 ad0 rvI Qa) S0 ad0 S 1049 [(0, Value.ref (enc 0 0)), (2, Value.ref (enc 13 4)), (3, Value.ref (enc 13 6)), (4, Value.ref (enc 13 7)), (5, Value.ref (enc 13 8)), (6, Value.ref (enc 13 9)), (9, Value.ref (enc 13 12)), (13, Value.int x13), (14, Value.int x14), (15, Value.int x15), (16, Value.int x16), (19, Value.int x19), (22, Value.int x22), (25, Value.int x25), (26, Value.int x26), (27, Value.int x27), (28, Value.int x28)] []) {k1083 : Int32 → Int32 → Int32 → Int32 → Int32 → Int32 → Int32 → Int32 → Int32 → Int32 → Int32 → Int32 → Sg → Prop} (hk1083 : ∀ {x13 : Int32} {x14 : Int32} {x15 : Int32} {x16 : Int32} {x19 : Int32} {x22 : Int32} {x25 : Int32} {x26 : Int32} {x27 : Int32} {x28 : Int32} {x29 : Int32} {x30 : Int32} {S : Sg}, k1083 x13 x14 x15 x16 x19 x22 x25 x26 x27 x28 x29 x30 S → V X p l e R s m args below meth c 33 (QM X below args s S0 ad0 rvI Qa) S0 ad0 S 1083 [(0, Value.ref (enc 0 0)), (2, Value.ref (enc 13 4)), (3, Value.ref (enc 13 6)), (4, Value.ref (enc 13 7)), (5, Value.ref (enc 13 8)), (6, Value.ref (enc 13 9)), (9, Value.ref (enc 13 12)), (13, Value.int x13), (14, Value.int x14), (15, Value.int x15), (16, Value.int x16), (19, Value.int x19), (22, Value.int x22), (25, Value.int x25), (26, Value.int x26), (27, Value.int x27), (28, Value.int x28), (29, Value.int x29), (30, Value.int x30)] []) {k1108 : Int32 → Int32 → Int32 → Int32 → Int32 → Int32 → Int32 → Int32 → Int32 → Int32 → Int32 → Int32 → Int32 → Int32 → Sg → Prop} (hk1108 : ∀ {x13 : Int32} {x14 : Int32} {x15 : Int32} {x16 : Int32} {x19 : Int32} {x22 : Int32} {x25 : Int32} {x26 : Int32} {x27 : Int32} {x28 : Int32} {x29 : Int32} {x30 : Int32} {x31 : Int32} {x32 : Int32} {S : Sg}, k1108 x13 x14 x15 x16 x19 x22 x25 x26 x27 x28 x29 x30 x31 x32 S → V X p l e R s m args below meth c 33 (QM X below args s S0 ad0 rvI Qa) S0 ad0 S 1108 [(0, Value.ref (enc 0 0)), (2, Value.ref (enc 13 4)), (3, Value.ref (enc 13 6)), (4, Value.ref (enc 13 7)), (5, Value.ref (enc 13 8)), (6, Value.ref (enc 13 9)), (9, Value.ref (enc 13 12)), (13, Value.int x13), (14, Value.int x14), (15, Value.int x15), (16, Value.int x16), (19, Value.int x19), (22, Value.int x22), (25, Value.int x25), (26, Value.int x26), (27, Value.int x27), (28, Value.int x28), (29, Value.int x29), (30, Value.int x30), (31, Value.int x31), (32, Value.int x32)] []) {x13 : Int32} {x14 : Int32} {x15 : Int32} {x16 : Int32} {x19 : Int32} {x22 : Int32} {x25 : Int32} {x26 : Int32} {x27 : Int32} {x28 : Int32} {x29 : Int32} {x30 : Int32} {x32 : Int32} {y0 : Int32} {S : Sg} (h : w_L_isSeat_1148 k1049 k1083 k1108 Qa x13 x14 x15 x16 x19 x22 x25 x26 x27 x28 x29 x30 x32 y0 S) : V X p l e R s m args below meth c 33 (QM X below args s S0 ad0 rvI Qa) S0 ad0 S 1148 [(0, Value.ref (enc 0 0)), (2, Value.ref (enc 13 4)), (3, Value.ref (enc 13 6)), (4, Value.ref (enc 13 7)), (5, Value.ref (enc 13 8)), (6, Value.ref (enc 13 9)), (9, Value.ref (enc 13 12)), (13, Value.int x13), (14, Value.int x14), (15, Value.int x15), (16, Value.int x16), (19, Value.int x19), (22, Value.int x22), (25, Value.int x25), (26, Value.int x26), (27, Value.int x27), (28, Value.int x28), (29, Value.int x29), (30, Value.int x30), (32, Value.int x32)] [Value.int y0] := by
  refine V_istore (pc := 1148) C dL_isSeat_1148 (by decide) rfl ?_
  refine V_iinc (pc := 1150) C (a := 20) (v := x32 + 1) dL_isSeat_1150 rfl rfl (by decide) rfl ?_
  refine V_goto (pc := 1153) (tgt := 1108) C dL_isSeat_1153 (by decide) ?_
  refine V_sub [2, 3, 4, 5, 6, 7, 8, 9, 10, 11, 12, 13, 14, 15, 16, 17, 18, 19, 20, 1, 0] rfl ?_
  exact hk1108 h
def w_L_isSeat_1147 (k1049 : Int32 → Int32 → Int32 → Int32 → Int32 → Int32 → Int32 → Int32 → Int32 → Int32 → Sg → Prop) (k1083 : Int32 → Int32 → Int32 → Int32 → Int32 → Int32 → Int32 → Int32 → Int32 → Int32 → Int32 → Int32 → Sg → Prop) (k1108 : Int32 → Int32 → Int32 → Int32 → Int32 → Int32 → Int32 → Int32 → Int32 → Int32 → Int32 → Int32 → Int32 → Int32 → Sg → Prop) (Q : Nat → Int32 → Sg → Prop) (x13 : Int32) (x14 : Int32) (x15 : Int32) (x16 : Int32) (x19 : Int32) (x22 : Int32) (x25 : Int32) (x26 : Int32) (x27 : Int32) (x28 : Int32) (x29 : Int32) (x30 : Int32) (x32 : Int32) (S : Sg) : Prop := w_L_isSeat_1148 k1049 k1083 k1108 Q x13 x14 x15 x16 x19 x22 x25 x26 x27 x28 x29 x30 x32 0 S
theorem k_L_isSeat_1147 (hT : xT X = tb1) (hl : l.stackTraces = false) (C : Cn X k0 p l R s m meth c cL_isSeat RL 33 14 321) (hr : meth.sig.returnType = (some .boolean)) (hnm : meth.name = yL_isSeat.name) (htab : (∀ x ∈ c.exceptionTable.toList, False)) {k1049 : Int32 → Int32 → Int32 → Int32 → Int32 → Int32 → Int32 → Int32 → Int32 → Int32 → Sg → Prop} (hk1049 : ∀ {x13 : Int32} {x14 : Int32} {x15 : Int32} {x16 : Int32} {x19 : Int32} {x22 : Int32} {x25 : Int32} {x26 : Int32} {x27 : Int32} {x28 : Int32} {S : Sg}, k1049 x13 x14 x15 x16 x19 x22 x25 x26 x27 x28 S → V X p l e R s m args below meth c 33 (QM X below args s S0 ad0 rvI Qa) S0 ad0 S 1049 [(0, Value.ref (enc 0 0)), (2, Value.ref (enc 13 4)), (3, Value.ref (enc 13 6)), (4, Value.ref (enc 13 7)), (5, Value.ref (enc 13 8)), (6, Value.ref (enc 13 9)), (9, Value.ref (enc 13 12)), (13, Value.int x13), (14, Value.int x14), (15, Value.int x15), (16, Value.int x16), (19, Value.int x19), (22, Value.int x22), (25, Value.int x25), (26, Value.int x26), (27, Value.int x27), (28, Value.int x28)] []) {k1083 : Int32 → Int32 → Int32 → Int32 → Int32 → Int32 → Int32 → Int32 → Int32 → Int32 → Int32 → Int32 → Sg → Prop} (hk1083 : ∀ {x13 : Int32} {x14 : Int32} {x15 : Int32} {x16 : Int32} {x19 : Int32} {x22 : Int32} {x25 : Int32} {x26 : Int32} {x27 : Int32} {x28 : Int32} {x29 : Int32} {x30 : Int32} {S : Sg}, k1083 x13 x14 x15 x16 x19 x22 x25 x26 x27 x28 x29 x30 S → V X p l e R s m args below meth c 33 (QM X below args s S0 ad0 rvI Qa) S0 ad0 S 1083 [(0, Value.ref (enc 0 0)), (2, Value.ref (enc 13 4)), (3, Value.ref (enc 13 6)), (4, Value.ref (enc 13 7)), (5, Value.ref (enc 13 8)), (6, Value.ref (enc 13 9)), (9, Value.ref (enc 13 12)), (13, Value.int x13), (14, Value.int x14), (15, Value.int x15), (16, Value.int x16), (19, Value.int x19), (22, Value.int x22), (25, Value.int x25), (26, Value.int x26), (27, Value.int x27), (28, Value.int x28), (29, Value.int x29), (30, Value.int x30)] []) {k1108 : Int32 → Int32 → Int32 → Int32 → Int32 → Int32 → Int32 → Int32 → Int32 → Int32 → Int32 → Int32 → Int32 → Int32 → Sg → Prop} (hk1108 : ∀ {x13 : Int32} {x14 : Int32} {x15 : Int32} {x16 : Int32} {x19 : Int32} {x22 : Int32} {x25 : Int32} {x26 : Int32} {x27 : Int32} {x28 : Int32} {x29 : Int32} {x30 : Int32} {x31 : Int32} {x32 : Int32} {S : Sg}, k1108 x13 x14 x15 x16 x19 x22 x25 x26 x27 x28 x29 x30 x31 x32 S → V X p l e R s m args below meth c 33 (QM X below args s S0 ad0 rvI Qa) S0 ad0 S 1108 [(0, Value.ref (enc 0 0)), (2, Value.ref (enc 13 4)), (3, Value.ref (enc 13 6)), (4, Value.ref (enc 13 7)), (5, Value.ref (enc 13 8)), (6, Value.ref (enc 13 9)), (9, Value.ref (enc 13 12)), (13, Value.int x13), (14, Value.int x14), (15, Value.int x15), (16, Value.int x16), (19, Value.int x19), (22, Value.int x22), (25, Value.int x25), (26, Value.int x26), (27, Value.int x27), (28, Value.int x28), (29, Value.int x29), (30, Value.int x30), (31, Value.int x31), (32, Value.int x32)] []) {x13 : Int32} {x14 : Int32} {x15 : Int32} {x16 : Int32} {x19 : Int32} {x22 : Int32} {x25 : Int32} {x26 : Int32} {x27 : Int32} {x28 : Int32} {x29 : Int32} {x30 : Int32} {x32 : Int32} {S : Sg} (h : w_L_isSeat_1147 k1049 k1083 k1108 Qa x13 x14 x15 x16 x19 x22 x25 x26 x27 x28 x29 x30 x32 S) : V X p l e R s m args below meth c 33 (QM X below args s S0 ad0 rvI Qa) S0 ad0 S 1147 [(0, Value.ref (enc 0 0)), (2, Value.ref (enc 13 4)), (3, Value.ref (enc 13 6)), (4, Value.ref (enc 13 7)), (5, Value.ref (enc 13 8)), (6, Value.ref (enc 13 9)), (9, Value.ref (enc 13 12)), (13, Value.int x13), (14, Value.int x14), (15, Value.int x15), (16, Value.int x16), (19, Value.int x19), (22, Value.int x22), (25, Value.int x25), (26, Value.int x26), (27, Value.int x27), (28, Value.int x28), (29, Value.int x29), (30, Value.int x30), (32, Value.int x32)] [] := by
  refine V_iconst (pc := 1147) C (v := 0) dL_isSeat_1147 rfl ?_
  refine V_sub [0, 1, 2, 3, 4, 5, 6, 7, 8, 9, 10, 11, 12, 13, 14, 15, 16, 17, 18, 19] rfl ?_
  exact k_L_isSeat_1148 hT hl C hr hnm htab (fun h => hk1049 h) (fun h => hk1083 h) (fun h => hk1108 h) h
def w_L_isSeat_1108 (k1049 : Int32 → Int32 → Int32 → Int32 → Int32 → Int32 → Int32 → Int32 → Int32 → Int32 → Sg → Prop) (k1083 : Int32 → Int32 → Int32 → Int32 → Int32 → Int32 → Int32 → Int32 → Int32 → Int32 → Int32 → Int32 → Sg → Prop) (Q : Nat → Int32 → Sg → Prop) : Nat → Int32 → Int32 → Int32 → Int32 → Int32 → Int32 → Int32 → Int32 → Int32 → Int32 → Int32 → Int32 → Int32 → Int32 → Sg → Prop
  | 0, _, _, _, _, _, _, _, _, _, _, _, _, _, _, _ => False
  | n + 1, x13, x14, x15, x16, x19, x22, x25, x26, x27, x28, x29, x30, x31, x32, S => (((x30 + x25) ≤ x32 → ((((2 * x30) + x25) ≤ x16 → w_L_isSeat_1191 k1049 k1083 Q x13 x14 x15 x16 x19 x22 x25 x26 x27 x28 x29 x30 x31 ((x16 - x25) - (2 * x30)) S) ∧ (¬ ((2 * x30) + x25) ≤ x16 → w_L_isSeat_1191 k1049 k1083 Q x13 x14 x15 x16 x19 x22 x25 x26 x27 x28 x29 x30 x31 (((2 * x30) + x25) - x16) S))) ∧ (¬ (x30 + x25) ≤ x32 → ((x31 = 0 → w_L_isSeat_1147 k1049 k1083 (fun x13 x14 x15 x16 x19 x22 x25 x26 x27 x28 x29 x30 x31 x32 S => w_L_isSeat_1108 k1049 k1083 Q n x13 x14 x15 x16 x19 x22 x25 x26 x27 x28 x29 x30 x31 x32 S) Q x13 x14 x15 x16 x19 x22 x25 x26 x27 x28 x29 x30 x32 S) ∧ (¬ x31 = 0 → (vp_in (((12 * x13) + (x16 * x28)) + x32) 60 ∧ (((S.1 107 (nt (((12 * x13) + (x16 * x28)) + x32))) = 0 → w_L_isSeat_1148 k1049 k1083 (fun x13 x14 x15 x16 x19 x22 x25 x26 x27 x28 x29 x30 x31 x32 S => w_L_isSeat_1108 k1049 k1083 Q n x13 x14 x15 x16 x19 x22 x25 x26 x27 x28 x29 x30 x31 x32 S) Q x13 x14 x15 x16 x19 x22 x25 x26 x27 x28 x29 x30 x32 1 S) ∧ (¬ (S.1 107 (nt (((12 * x13) + (x16 * x28)) + x32))) = 0 → w_L_isSeat_1147 k1049 k1083 (fun x13 x14 x15 x16 x19 x22 x25 x26 x27 x28 x29 x30 x31 x32 S => w_L_isSeat_1108 k1049 k1083 Q n x13 x14 x15 x16 x19 x22 x25 x26 x27 x28 x29 x30 x31 x32 S) Q x13 x14 x15 x16 x19 x22 x25 x26 x27 x28 x29 x30 x32 S)))))))
theorem k_L_isSeat_1108 (hT : xT X = tb1) (hl : l.stackTraces = false) (C : Cn X k0 p l R s m meth c cL_isSeat RL 33 14 321) (hr : meth.sig.returnType = (some .boolean)) (hnm : meth.name = yL_isSeat.name) (htab : (∀ x ∈ c.exceptionTable.toList, False)) {k1049 : Int32 → Int32 → Int32 → Int32 → Int32 → Int32 → Int32 → Int32 → Int32 → Int32 → Sg → Prop} (hk1049 : ∀ {x13 : Int32} {x14 : Int32} {x15 : Int32} {x16 : Int32} {x19 : Int32} {x22 : Int32} {x25 : Int32} {x26 : Int32} {x27 : Int32} {x28 : Int32} {S : Sg}, k1049 x13 x14 x15 x16 x19 x22 x25 x26 x27 x28 S → V X p l e R s m args below meth c 33 (QM X below args s S0 ad0 rvI Qa) S0 ad0 S 1049 [(0, Value.ref (enc 0 0)), (2, Value.ref (enc 13 4)), (3, Value.ref (enc 13 6)), (4, Value.ref (enc 13 7)), (5, Value.ref (enc 13 8)), (6, Value.ref (enc 13 9)), (9, Value.ref (enc 13 12)), (13, Value.int x13), (14, Value.int x14), (15, Value.int x15), (16, Value.int x16), (19, Value.int x19), (22, Value.int x22), (25, Value.int x25), (26, Value.int x26), (27, Value.int x27), (28, Value.int x28)] []) {k1083 : Int32 → Int32 → Int32 → Int32 → Int32 → Int32 → Int32 → Int32 → Int32 → Int32 → Int32 → Int32 → Sg → Prop} (hk1083 : ∀ {x13 : Int32} {x14 : Int32} {x15 : Int32} {x16 : Int32} {x19 : Int32} {x22 : Int32} {x25 : Int32} {x26 : Int32} {x27 : Int32} {x28 : Int32} {x29 : Int32} {x30 : Int32} {S : Sg}, k1083 x13 x14 x15 x16 x19 x22 x25 x26 x27 x28 x29 x30 S → V X p l e R s m args below meth c 33 (QM X below args s S0 ad0 rvI Qa) S0 ad0 S 1083 [(0, Value.ref (enc 0 0)), (2, Value.ref (enc 13 4)), (3, Value.ref (enc 13 6)), (4, Value.ref (enc 13 7)), (5, Value.ref (enc 13 8)), (6, Value.ref (enc 13 9)), (9, Value.ref (enc 13 12)), (13, Value.int x13), (14, Value.int x14), (15, Value.int x15), (16, Value.int x16), (19, Value.int x19), (22, Value.int x22), (25, Value.int x25), (26, Value.int x26), (27, Value.int x27), (28, Value.int x28), (29, Value.int x29), (30, Value.int x30)] []) : ∀ n {x13 : Int32} {x14 : Int32} {x15 : Int32} {x16 : Int32} {x19 : Int32} {x22 : Int32} {x25 : Int32} {x26 : Int32} {x27 : Int32} {x28 : Int32} {x29 : Int32} {x30 : Int32} {x31 : Int32} {x32 : Int32} {S : Sg}, w_L_isSeat_1108 k1049 k1083 Qa n x13 x14 x15 x16 x19 x22 x25 x26 x27 x28 x29 x30 x31 x32 S → V X p l e R s m args below meth c 33 (QM X below args s S0 ad0 rvI Qa) S0 ad0 S 1108 [(0, Value.ref (enc 0 0)), (2, Value.ref (enc 13 4)), (3, Value.ref (enc 13 6)), (4, Value.ref (enc 13 7)), (5, Value.ref (enc 13 8)), (6, Value.ref (enc 13 9)), (9, Value.ref (enc 13 12)), (13, Value.int x13), (14, Value.int x14), (15, Value.int x15), (16, Value.int x16), (19, Value.int x19), (22, Value.int x22), (25, Value.int x25), (26, Value.int x26), (27, Value.int x27), (28, Value.int x28), (29, Value.int x29), (30, Value.int x30), (31, Value.int x31), (32, Value.int x32)] [] := by
  intro n
  induction n with
  | zero => intro x13 x14 x15 x16 x19 x22 x25 x26 x27 x28 x29 x30 x31 x32 S h; exact h.elim
  | succ n ih =>
    intro x13 x14 x15 x16 x19 x22 x25 x26 x27 x28 x29 x30 x31 x32 S h
    refine V_iload (pc := 1108) C dL_isSeat_1108 20 rfl ?_
    refine V_iload (pc := 1110) C dL_isSeat_1110 18 rfl ?_
    refine V_iload (pc := 1112) C dL_isSeat_1112 13 rfl ?_
    refine V_iadd (pc := 1114) C dL_isSeat_1114 ?_
    refine V_icmp_ge (pc := 1115) (tgt := 1156) C dL_isSeat_1115 (by decide) h (fun h => ?_) (fun h => ?_)
    · refine V_iconst (pc := 1156) C (v := 2) dL_isSeat_1156 rfl ?_
      refine V_iload (pc := 1157) C dL_isSeat_1157 18 rfl ?_
      refine V_imul (pc := 1159) C dL_isSeat_1159 ?_
      refine V_iload (pc := 1160) C dL_isSeat_1160 13 rfl ?_
      refine V_iadd (pc := 1162) C dL_isSeat_1162 ?_
      refine V_iload (pc := 1163) C dL_isSeat_1163 10 rfl ?_
      refine V_icmp_le (pc := 1165) (tgt := 1181) C dL_isSeat_1165 (by decide) h (fun h => ?_) (fun h => ?_)
      · refine V_iload (pc := 1181) C dL_isSeat_1181 10 rfl ?_
        refine V_iload (pc := 1183) C dL_isSeat_1183 13 rfl ?_
        refine V_isub (pc := 1185) C dL_isSeat_1185 ?_
        refine V_iconst (pc := 1186) C (v := 2) dL_isSeat_1186 rfl ?_
        refine V_iload (pc := 1187) C dL_isSeat_1187 18 rfl ?_
        refine V_imul (pc := 1189) C dL_isSeat_1189 ?_
        refine V_isub (pc := 1190) C dL_isSeat_1190 ?_
        refine V_sub [0, 1, 2, 3, 4, 5, 6, 7, 8, 9, 10, 11, 12, 13, 14, 15, 16, 17, 18, 19] rfl ?_
        exact k_L_isSeat_1191 hT hl C hr hnm htab (fun h => hk1049 h) (fun h => hk1083 h) h
      · refine V_iconst (pc := 1168) C (v := 2) dL_isSeat_1168 rfl ?_
        refine V_iload (pc := 1169) C dL_isSeat_1169 18 rfl ?_
        refine V_imul (pc := 1171) C dL_isSeat_1171 ?_
        refine V_iload (pc := 1172) C dL_isSeat_1172 13 rfl ?_
        refine V_iadd (pc := 1174) C dL_isSeat_1174 ?_
        refine V_iload (pc := 1175) C dL_isSeat_1175 10 rfl ?_
        refine V_isub (pc := 1177) C dL_isSeat_1177 ?_
        refine V_goto (pc := 1178) (tgt := 1191) C dL_isSeat_1178 (by decide) ?_
        refine V_sub [0, 1, 2, 3, 4, 5, 6, 7, 8, 9, 10, 11, 12, 13, 14, 15, 16, 17, 18, 19] rfl ?_
        exact k_L_isSeat_1191 hT hl C hr hnm htab (fun h => hk1049 h) (fun h => hk1083 h) h
    · refine V_iload (pc := 1118) C dL_isSeat_1118 19 rfl ?_
      refine V_if_eq (pc := 1120) (tgt := 1147) C dL_isSeat_1120 (by decide) h (fun h => ?_) (fun h => ?_)
      · refine V_sub [0, 1, 2, 3, 4, 5, 6, 7, 8, 9, 10, 11, 12, 13, 14, 15, 16, 17, 18, 20] rfl ?_
        exact k_L_isSeat_1147 hT hl C hr hnm htab (fun h => hk1049 h) (fun h => hk1083 h) (fun h => ih h) h
      · refine V_aload (pc := 1123) C dL_isSeat_1123 3 rfl ?_
        refine V_bipush (pc := 1125) C (v := 12) dL_isSeat_1125 rfl ?_
        refine V_iload (pc := 1127) C dL_isSeat_1127 7 rfl ?_
        refine V_imul (pc := 1129) C dL_isSeat_1129 ?_
        refine V_iload (pc := 1130) C dL_isSeat_1130 10 rfl ?_
        refine V_iload (pc := 1132) C dL_isSeat_1132 16 rfl ?_
        refine V_imul (pc := 1134) C dL_isSeat_1134 ?_
        refine V_iadd (pc := 1135) C dL_isSeat_1135 ?_
        refine V_iload (pc := 1136) C dL_isSeat_1136 20 rfl ?_
        refine V_iadd (pc := 1138) C dL_isSeat_1138 ?_
        refine V_mld (pc := 1139) C hT tb1_arr (n := 60) (c9 := 107) rfl rfl rfl h dL_isSeat_1139 (fun h => ?_)
        refine V_if_ne (pc := 1140) (tgt := 1147) C dL_isSeat_1140 (by decide) h (fun h => ?_) (fun h => ?_)
        · refine V_sub [0, 1, 2, 3, 4, 5, 6, 7, 8, 9, 10, 11, 12, 13, 14, 15, 16, 17, 18, 20] rfl ?_
          exact k_L_isSeat_1147 hT hl C hr hnm htab (fun h => hk1049 h) (fun h => hk1083 h) (fun h => ih h) h
        · refine V_iconst (pc := 1143) C (v := 1) dL_isSeat_1143 rfl ?_
          refine V_goto (pc := 1144) (tgt := 1148) C dL_isSeat_1144 (by decide) ?_
          refine V_sub [0, 1, 2, 3, 4, 5, 6, 7, 8, 9, 10, 11, 12, 13, 14, 15, 16, 17, 18, 20] rfl ?_
          exact k_L_isSeat_1148 hT hl C hr hnm htab (fun h => hk1049 h) (fun h => hk1083 h) (fun h => ih h) h
def w_L_isSeat_1102 (k1049 : Int32 → Int32 → Int32 → Int32 → Int32 → Int32 → Int32 → Int32 → Int32 → Int32 → Sg → Prop) (k1083 : Int32 → Int32 → Int32 → Int32 → Int32 → Int32 → Int32 → Int32 → Int32 → Int32 → Int32 → Int32 → Sg → Prop) (Q : Nat → Int32 → Sg → Prop) (x13 : Int32) (x14 : Int32) (x15 : Int32) (x16 : Int32) (x19 : Int32) (x22 : Int32) (x25 : Int32) (x26 : Int32) (x27 : Int32) (x28 : Int32) (x29 : Int32) (x30 : Int32) (y0 : Int32) (S : Sg) : Prop := ∃ n9, w_L_isSeat_1108 k1049 k1083 Q n9 x13 x14 x15 x16 x19 x22 x25 x26 x27 x28 x29 x30 y0 x30 S
theorem k_L_isSeat_1102 (hT : xT X = tb1) (hl : l.stackTraces = false) (C : Cn X k0 p l R s m meth c cL_isSeat RL 33 14 321) (hr : meth.sig.returnType = (some .boolean)) (hnm : meth.name = yL_isSeat.name) (htab : (∀ x ∈ c.exceptionTable.toList, False)) {k1049 : Int32 → Int32 → Int32 → Int32 → Int32 → Int32 → Int32 → Int32 → Int32 → Int32 → Sg → Prop} (hk1049 : ∀ {x13 : Int32} {x14 : Int32} {x15 : Int32} {x16 : Int32} {x19 : Int32} {x22 : Int32} {x25 : Int32} {x26 : Int32} {x27 : Int32} {x28 : Int32} {S : Sg}, k1049 x13 x14 x15 x16 x19 x22 x25 x26 x27 x28 S → V X p l e R s m args below meth c 33 (QM X below args s S0 ad0 rvI Qa) S0 ad0 S 1049 [(0, Value.ref (enc 0 0)), (2, Value.ref (enc 13 4)), (3, Value.ref (enc 13 6)), (4, Value.ref (enc 13 7)), (5, Value.ref (enc 13 8)), (6, Value.ref (enc 13 9)), (9, Value.ref (enc 13 12)), (13, Value.int x13), (14, Value.int x14), (15, Value.int x15), (16, Value.int x16), (19, Value.int x19), (22, Value.int x22), (25, Value.int x25), (26, Value.int x26), (27, Value.int x27), (28, Value.int x28)] []) {k1083 : Int32 → Int32 → Int32 → Int32 → Int32 → Int32 → Int32 → Int32 → Int32 → Int32 → Int32 → Int32 → Sg → Prop} (hk1083 : ∀ {x13 : Int32} {x14 : Int32} {x15 : Int32} {x16 : Int32} {x19 : Int32} {x22 : Int32} {x25 : Int32} {x26 : Int32} {x27 : Int32} {x28 : Int32} {x29 : Int32} {x30 : Int32} {S : Sg}, k1083 x13 x14 x15 x16 x19 x22 x25 x26 x27 x28 x29 x30 S → V X p l e R s m args below meth c 33 (QM X below args s S0 ad0 rvI Qa) S0 ad0 S 1083 [(0, Value.ref (enc 0 0)), (2, Value.ref (enc 13 4)), (3, Value.ref (enc 13 6)), (4, Value.ref (enc 13 7)), (5, Value.ref (enc 13 8)), (6, Value.ref (enc 13 9)), (9, Value.ref (enc 13 12)), (13, Value.int x13), (14, Value.int x14), (15, Value.int x15), (16, Value.int x16), (19, Value.int x19), (22, Value.int x22), (25, Value.int x25), (26, Value.int x26), (27, Value.int x27), (28, Value.int x28), (29, Value.int x29), (30, Value.int x30)] []) {x13 : Int32} {x14 : Int32} {x15 : Int32} {x16 : Int32} {x19 : Int32} {x22 : Int32} {x25 : Int32} {x26 : Int32} {x27 : Int32} {x28 : Int32} {x29 : Int32} {x30 : Int32} {y0 : Int32} {S : Sg} (h : w_L_isSeat_1102 k1049 k1083 Qa x13 x14 x15 x16 x19 x22 x25 x26 x27 x28 x29 x30 y0 S) : V X p l e R s m args below meth c 33 (QM X below args s S0 ad0 rvI Qa) S0 ad0 S 1102 [(0, Value.ref (enc 0 0)), (2, Value.ref (enc 13 4)), (3, Value.ref (enc 13 6)), (4, Value.ref (enc 13 7)), (5, Value.ref (enc 13 8)), (6, Value.ref (enc 13 9)), (9, Value.ref (enc 13 12)), (13, Value.int x13), (14, Value.int x14), (15, Value.int x15), (16, Value.int x16), (19, Value.int x19), (22, Value.int x22), (25, Value.int x25), (26, Value.int x26), (27, Value.int x27), (28, Value.int x28), (29, Value.int x29), (30, Value.int x30)] [Value.int y0] := by
  refine V_istore (pc := 1102) C dL_isSeat_1102 (by decide) rfl ?_
  refine V_iload (pc := 1104) C dL_isSeat_1104 19 rfl ?_
  refine V_istore (pc := 1106) C dL_isSeat_1106 (by decide) rfl ?_
  refine V_sub [2, 3, 4, 5, 6, 7, 8, 9, 10, 11, 12, 13, 14, 15, 16, 17, 18, 19, 20, 1, 0] rfl ?_
  obtain ⟨n9, h⟩ := h
  exact k_L_isSeat_1108 hT hl C hr hnm htab (fun h => hk1049 h) (fun h => hk1083 h) n9 h
def w_L_isSeat_1083 (k1049 : Int32 → Int32 → Int32 → Int32 → Int32 → Int32 → Int32 → Int32 → Int32 → Int32 → Sg → Prop) (Q : Nat → Int32 → Sg → Prop) : Nat → Int32 → Int32 → Int32 → Int32 → Int32 → Int32 → Int32 → Int32 → Int32 → Int32 → Int32 → Int32 → Sg → Prop
  | 0, _, _, _, _, _, _, _, _, _, _, _, _, _ => False
  | n + 1, x13, x14, x15, x16, x19, x22, x25, x26, x27, x28, x29, x30, S => ((x30 < 0 → k1049 x13 x14 x15 x16 x19 x22 x25 x26 x27 (x28 + 1) S) ∧ (¬ x30 < 0 → (w_L_state x13 S (fun k33 v32 S31 => (k33 = 0 → ((v32 = 0 → w_L_isSeat_1102 k1049 (fun x13 x14 x15 x16 x19 x22 x25 x26 x27 x28 x29 x30 S => w_L_isSeat_1083 k1049 Q n x13 x14 x15 x16 x19 x22 x25 x26 x27 x28 x29 x30 S) Q x13 x14 x15 x16 x19 x22 x25 x26 x27 x28 x29 x30 1 S31) ∧ (¬ v32 = 0 → w_L_isSeat_1102 k1049 (fun x13 x14 x15 x16 x19 x22 x25 x26 x27 x28 x29 x30 S => w_L_isSeat_1083 k1049 Q n x13 x14 x15 x16 x19 x22 x25 x26 x27 x28 x29 x30 S) Q x13 x14 x15 x16 x19 x22 x25 x26 x27 x28 x29 x30 0 S31))) ∧ (¬ k33 = 0 → Q k33 0 S31)))))
theorem k_L_isSeat_1083 (hT : xT X = tb1) (hl : l.stackTraces = false) (C : Cn X k0 p l R s m meth c cL_isSeat RL 33 14 321) (hr : meth.sig.returnType = (some .boolean)) (hnm : meth.name = yL_isSeat.name) (htab : (∀ x ∈ c.exceptionTable.toList, False)) {k1049 : Int32 → Int32 → Int32 → Int32 → Int32 → Int32 → Int32 → Int32 → Int32 → Int32 → Sg → Prop} (hk1049 : ∀ {x13 : Int32} {x14 : Int32} {x15 : Int32} {x16 : Int32} {x19 : Int32} {x22 : Int32} {x25 : Int32} {x26 : Int32} {x27 : Int32} {x28 : Int32} {S : Sg}, k1049 x13 x14 x15 x16 x19 x22 x25 x26 x27 x28 S → V X p l e R s m args below meth c 33 (QM X below args s S0 ad0 rvI Qa) S0 ad0 S 1049 [(0, Value.ref (enc 0 0)), (2, Value.ref (enc 13 4)), (3, Value.ref (enc 13 6)), (4, Value.ref (enc 13 7)), (5, Value.ref (enc 13 8)), (6, Value.ref (enc 13 9)), (9, Value.ref (enc 13 12)), (13, Value.int x13), (14, Value.int x14), (15, Value.int x15), (16, Value.int x16), (19, Value.int x19), (22, Value.int x22), (25, Value.int x25), (26, Value.int x26), (27, Value.int x27), (28, Value.int x28)] []) : ∀ n {x13 : Int32} {x14 : Int32} {x15 : Int32} {x16 : Int32} {x19 : Int32} {x22 : Int32} {x25 : Int32} {x26 : Int32} {x27 : Int32} {x28 : Int32} {x29 : Int32} {x30 : Int32} {S : Sg}, w_L_isSeat_1083 k1049 Qa n x13 x14 x15 x16 x19 x22 x25 x26 x27 x28 x29 x30 S → V X p l e R s m args below meth c 33 (QM X below args s S0 ad0 rvI Qa) S0 ad0 S 1083 [(0, Value.ref (enc 0 0)), (2, Value.ref (enc 13 4)), (3, Value.ref (enc 13 6)), (4, Value.ref (enc 13 7)), (5, Value.ref (enc 13 8)), (6, Value.ref (enc 13 9)), (9, Value.ref (enc 13 12)), (13, Value.int x13), (14, Value.int x14), (15, Value.int x15), (16, Value.int x16), (19, Value.int x19), (22, Value.int x22), (25, Value.int x25), (26, Value.int x26), (27, Value.int x27), (28, Value.int x28), (29, Value.int x29), (30, Value.int x30)] [] := by
  intro n
  induction n with
  | zero => intro x13 x14 x15 x16 x19 x22 x25 x26 x27 x28 x29 x30 S h; exact h.elim
  | succ n ih =>
    intro x13 x14 x15 x16 x19 x22 x25 x26 x27 x28 x29 x30 S h
    refine V_iload (pc := 1083) C dL_isSeat_1083 18 rfl ?_
    refine V_if_lt (pc := 1085) (tgt := 1247) C dL_isSeat_1085 (by decide) h (fun h => ?_) (fun h => ?_)
    · refine V_iinc (pc := 1247) C (a := 16) (v := x28 + 1) dL_isSeat_1247 rfl rfl (by decide) rfl ?_
      refine V_goto (pc := 1250) (tgt := 1049) C dL_isSeat_1250 (by decide) ?_
      refine V_sub [1, 2, 3, 4, 5, 6, 7, 8, 9, 10, 11, 12, 13, 14, 15, 16, 0] rfl ?_
      exact hk1049 h
    · refine V_aload_n (pc := 1088) C dL_isSeat_1088 rfl 2 rfl ?_
      refine V_iload (pc := 1089) C dL_isSeat_1089 7 rfl ?_
      refine V_callS (pc := 1091) C (ct_L_state hT hl h) g794 g795 g796 g32 ⟨by decide, by decide, pl_L_state⟩ ⟨by decide, by decide⟩ (rest := []) rfl (le8 rfl) dL_isSeat_1091 (fun v32 S31 h => ?_) (fun k9 S9 hk h => VX_out C htab hk (h.2 (by omega)))
      replace h := h.1 rfl
      refine V_st (st' := [Value.int v32]) rfl ?_
      refine V_if_ne (pc := 1094) (tgt := 1101) C dL_isSeat_1094 (by decide) h (fun h => ?_) (fun h => ?_)
      · refine V_iconst (pc := 1101) C (v := 0) dL_isSeat_1101 rfl ?_
        refine V_sub [0, 1, 2, 3, 4, 5, 6, 7, 8, 9, 10, 11, 12, 13, 14, 15, 16, 17, 18] rfl ?_
        exact k_L_isSeat_1102 hT hl C hr hnm htab (fun h => hk1049 h) (fun h => ih h) h
      · refine V_iconst (pc := 1097) C (v := 1) dL_isSeat_1097 rfl ?_
        refine V_goto (pc := 1098) (tgt := 1102) C dL_isSeat_1098 (by decide) ?_
        refine V_sub [0, 1, 2, 3, 4, 5, 6, 7, 8, 9, 10, 11, 12, 13, 14, 15, 16, 17, 18] rfl ?_
        exact k_L_isSeat_1102 hT hl C hr hnm htab (fun h => hk1049 h) (fun h => ih h) h
def w_L_isSeat_1049  (Q : Nat → Int32 → Sg → Prop) : Nat → Int32 → Int32 → Int32 → Int32 → Int32 → Int32 → Int32 → Int32 → Int32 → Int32 → Sg → Prop
  | 0, _, _, _, _, _, _, _, _, _, _, _ => False
  | n + 1, x13, x14, x15, x16, x19, x22, x25, x26, x27, x28, S => ((x15 ≤ x28 → w_L_isSeat_1253  Q x13 x14 x19 x22 x25 x26 x27 S) ∧ (¬ x15 ≤ x28 → ((x14 = 0 → w_L_isSeat_1253  Q x13 x14 x19 x22 x25 x26 x27 S) ∧ (¬ x14 = 0 → ((x26 = 0 → w_L_isSeat_1253  Q x13 x14 x19 x22 x25 x26 x27 S) ∧ (¬ x26 = 0 → ((0 ≤ x27 → w_L_isSeat_1253  Q x13 x14 x19 x22 x25 x26 x27 S) ∧ (¬ 0 ≤ x27 → (∀ v34, v34 = x16 - x25 → ∃ n9, w_L_isSeat_1083 (fun x13 x14 x15 x16 x19 x22 x25 x26 x27 x28 S => w_L_isSeat_1049  Q n x13 x14 x15 x16 x19 x22 x25 x26 x27 x28 S) Q n9 x13 x14 x15 x16 x19 x22 x25 x26 x27 x28 1000 v34 S)))))))))
theorem k_L_isSeat_1049 (hT : xT X = tb1) (hl : l.stackTraces = false) (C : Cn X k0 p l R s m meth c cL_isSeat RL 33 14 321) (hr : meth.sig.returnType = (some .boolean)) (hnm : meth.name = yL_isSeat.name) (htab : (∀ x ∈ c.exceptionTable.toList, False))  : ∀ n {x13 : Int32} {x14 : Int32} {x15 : Int32} {x16 : Int32} {x19 : Int32} {x22 : Int32} {x25 : Int32} {x26 : Int32} {x27 : Int32} {x28 : Int32} {S : Sg}, w_L_isSeat_1049  Qa n x13 x14 x15 x16 x19 x22 x25 x26 x27 x28 S → V X p l e R s m args below meth c 33 (QM X below args s S0 ad0 rvI Qa) S0 ad0 S 1049 [(0, Value.ref (enc 0 0)), (2, Value.ref (enc 13 4)), (3, Value.ref (enc 13 6)), (4, Value.ref (enc 13 7)), (5, Value.ref (enc 13 8)), (6, Value.ref (enc 13 9)), (9, Value.ref (enc 13 12)), (13, Value.int x13), (14, Value.int x14), (15, Value.int x15), (16, Value.int x16), (19, Value.int x19), (22, Value.int x22), (25, Value.int x25), (26, Value.int x26), (27, Value.int x27), (28, Value.int x28)] [] := by
  intro n
  induction n with
  | zero => intro x13 x14 x15 x16 x19 x22 x25 x26 x27 x28 S h; exact h.elim
  | succ n ih =>
    intro x13 x14 x15 x16 x19 x22 x25 x26 x27 x28 S h
    refine V_iload (pc := 1049) C dL_isSeat_1049 16 rfl ?_
    refine V_iload (pc := 1051) C dL_isSeat_1051 9 rfl ?_
    refine V_icmp_ge (pc := 1053) (tgt := 1253) C dL_isSeat_1053 (by decide) h (fun h => ?_) (fun h => ?_)
    · refine V_sub [0, 1, 2, 3, 4, 5, 6, 7, 8, 11, 12, 13, 14, 15] rfl ?_
      exact k_L_isSeat_1253 hT hl C hr hnm htab  h
    · refine V_iload (pc := 1056) C dL_isSeat_1056 8 rfl ?_
      refine V_if_eq (pc := 1058) (tgt := 1253) C dL_isSeat_1058 (by decide) h (fun h => ?_) (fun h => ?_)
      · refine V_sub [0, 1, 2, 3, 4, 5, 6, 7, 8, 11, 12, 13, 14, 15] rfl ?_
        exact k_L_isSeat_1253 hT hl C hr hnm htab  h
      · refine V_iload (pc := 1061) C dL_isSeat_1061 14 rfl ?_
        refine V_if_eq (pc := 1063) (tgt := 1253) C dL_isSeat_1063 (by decide) h (fun h => ?_) (fun h => ?_)
        · refine V_sub [0, 1, 2, 3, 4, 5, 6, 7, 8, 11, 12, 13, 14, 15] rfl ?_
          exact k_L_isSeat_1253 hT hl C hr hnm htab  h
        · refine V_iload (pc := 1066) C dL_isSeat_1066 15 rfl ?_
          refine V_if_ge (pc := 1068) (tgt := 1253) C dL_isSeat_1068 (by decide) h (fun h => ?_) (fun h => ?_)
          · refine V_sub [0, 1, 2, 3, 4, 5, 6, 7, 8, 11, 12, 13, 14, 15] rfl ?_
            exact k_L_isSeat_1253 hT hl C hr hnm htab  h
          · refine V_sipush (pc := 1071) C (v := 1000) dL_isSeat_1071 rfl ?_
            refine V_istore (pc := 1074) C dL_isSeat_1074 (by decide) rfl ?_
            refine V_iload (pc := 1076) C dL_isSeat_1076 11 rfl ?_
            refine V_iload (pc := 1078) C dL_isSeat_1078 14 rfl ?_
            refine V_isub (pc := 1080) C dL_isSeat_1080 ?_
            refine V_nI fun v34 e9 => ?_
            replace h := h v34 e9; clear e9
            refine V_istore (pc := 1081) C dL_isSeat_1081 (by decide) rfl ?_
            refine V_sub [2, 3, 4, 5, 6, 7, 8, 9, 10, 11, 12, 13, 14, 15, 16, 17, 18, 1, 0] rfl ?_
            obtain ⟨n9, h⟩ := h
            exact k_L_isSeat_1083 hT hl C hr hnm htab (fun h => ih h) n9 h
def w_L_isSeat_1041  (Q : Nat → Int32 → Sg → Prop) (x13 : Int32) (x14 : Int32) (x15 : Int32) (x16 : Int32) (x19 : Int32) (x22 : Int32) (x25 : Int32) (y0 : Int32) (S : Sg) : Prop := ∃ n9, w_L_isSeat_1049  Q n9 x13 x14 x15 x16 x19 x22 x25 y0 (-1) 0 S
theorem k_L_isSeat_1041 (hT : xT X = tb1) (hl : l.stackTraces = false) (C : Cn X k0 p l R s m meth c cL_isSeat RL 33 14 321) (hr : meth.sig.returnType = (some .boolean)) (hnm : meth.name = yL_isSeat.name) (htab : (∀ x ∈ c.exceptionTable.toList, False))  {x13 : Int32} {x14 : Int32} {x15 : Int32} {x16 : Int32} {x19 : Int32} {x22 : Int32} {x25 : Int32} {y0 : Int32} {S : Sg} (h : w_L_isSeat_1041  Qa x13 x14 x15 x16 x19 x22 x25 y0 S) : V X p l e R s m args below meth c 33 (QM X below args s S0 ad0 rvI Qa) S0 ad0 S 1041 [(0, Value.ref (enc 0 0)), (2, Value.ref (enc 13 4)), (3, Value.ref (enc 13 6)), (4, Value.ref (enc 13 7)), (5, Value.ref (enc 13 8)), (6, Value.ref (enc 13 9)), (9, Value.ref (enc 13 12)), (13, Value.int x13), (14, Value.int x14), (15, Value.int x15), (16, Value.int x16), (19, Value.int x19), (22, Value.int x22), (25, Value.int x25)] [Value.int y0] := by
  refine V_istore (pc := 1041) C dL_isSeat_1041 (by decide) rfl ?_
  refine V_iconst (pc := 1043) C (v := (-1)) dL_isSeat_1043 rfl ?_
  refine V_istore (pc := 1044) C dL_isSeat_1044 (by decide) rfl ?_
  refine V_iconst (pc := 1046) C (v := 0) dL_isSeat_1046 rfl ?_
  refine V_istore (pc := 1047) C dL_isSeat_1047 (by decide) rfl ?_
  refine V_sub [3, 4, 5, 6, 7, 8, 9, 10, 11, 12, 13, 14, 15, 16, 2, 1, 0] rfl ?_
  obtain ⟨n9, h⟩ := h
  exact k_L_isSeat_1049 hT hl C hr hnm htab  n9 h
def w_L_isSeat_1040  (Q : Nat → Int32 → Sg → Prop) (x13 : Int32) (x14 : Int32) (x15 : Int32) (x16 : Int32) (x19 : Int32) (x22 : Int32) (x25 : Int32) (S : Sg) : Prop := w_L_isSeat_1041  Q x13 x14 x15 x16 x19 x22 x25 0 S
theorem k_L_isSeat_1040 (hT : xT X = tb1) (hl : l.stackTraces = false) (C : Cn X k0 p l R s m meth c cL_isSeat RL 33 14 321) (hr : meth.sig.returnType = (some .boolean)) (hnm : meth.name = yL_isSeat.name) (htab : (∀ x ∈ c.exceptionTable.toList, False))  {x13 : Int32} {x14 : Int32} {x15 : Int32} {x16 : Int32} {x19 : Int32} {x22 : Int32} {x25 : Int32} {S : Sg} (h : w_L_isSeat_1040  Qa x13 x14 x15 x16 x19 x22 x25 S) : V X p l e R s m args below meth c 33 (QM X below args s S0 ad0 rvI Qa) S0 ad0 S 1040 [(0, Value.ref (enc 0 0)), (2, Value.ref (enc 13 4)), (3, Value.ref (enc 13 6)), (4, Value.ref (enc 13 7)), (5, Value.ref (enc 13 8)), (6, Value.ref (enc 13 9)), (9, Value.ref (enc 13 12)), (13, Value.int x13), (14, Value.int x14), (15, Value.int x15), (16, Value.int x16), (19, Value.int x19), (22, Value.int x22), (25, Value.int x25)] [] := by
  refine V_iconst (pc := 1040) C (v := 0) dL_isSeat_1040 rfl ?_
  refine V_sub [0, 1, 2, 3, 4, 5, 6, 7, 8, 9, 10, 11, 12, 13] rfl ?_
  exact k_L_isSeat_1041 hT hl C hr hnm htab  h
def w_L_isSeat_1014  (Q : Nat → Int32 → Sg → Prop) (x13 : Int32) (x14 : Int32) (x15 : Int32) (x16 : Int32) (x19 : Int32) (x22 : Int32) (y0 : Int32) (S : Sg) : Prop := ((y0 ≤ 1 → w_L_isSeat_1040  Q x13 x14 x15 x16 x19 x22 y0 S) ∧ (¬ y0 ≤ 1 → ((9 ≤ y0 → w_L_isSeat_1040  Q x13 x14 x15 x16 x19 x22 y0 S) ∧ (¬ 9 ≤ y0 → ((121 ≤ x19 → w_L_isSeat_1040  Q x13 x14 x15 x16 x19 x22 y0 S) ∧ (¬ 121 ≤ x19 → w_L_isSeat_1041  Q x13 x14 x15 x16 x19 x22 y0 1 S))))))
theorem k_L_isSeat_1014 (hT : xT X = tb1) (hl : l.stackTraces = false) (C : Cn X k0 p l R s m meth c cL_isSeat RL 33 14 321) (hr : meth.sig.returnType = (some .boolean)) (hnm : meth.name = yL_isSeat.name) (htab : (∀ x ∈ c.exceptionTable.toList, False))  {x13 : Int32} {x14 : Int32} {x15 : Int32} {x16 : Int32} {x19 : Int32} {x22 : Int32} {y0 : Int32} {S : Sg} (h : w_L_isSeat_1014  Qa x13 x14 x15 x16 x19 x22 y0 S) : V X p l e R s m args below meth c 33 (QM X below args s S0 ad0 rvI Qa) S0 ad0 S 1014 [(0, Value.ref (enc 0 0)), (2, Value.ref (enc 13 4)), (3, Value.ref (enc 13 6)), (4, Value.ref (enc 13 7)), (5, Value.ref (enc 13 8)), (6, Value.ref (enc 13 9)), (9, Value.ref (enc 13 12)), (13, Value.int x13), (14, Value.int x14), (15, Value.int x15), (16, Value.int x16), (19, Value.int x19), (22, Value.int x22)] [Value.int y0] := by
  refine V_istore (pc := 1014) C dL_isSeat_1014 (by decide) rfl ?_
  refine V_iload (pc := 1016) C dL_isSeat_1016 0 rfl ?_
  refine V_iconst (pc := 1018) C (v := 1) dL_isSeat_1018 rfl ?_
  refine V_icmp_le (pc := 1019) (tgt := 1040) C dL_isSeat_1019 (by decide) h (fun h => ?_) (fun h => ?_)
  · refine V_sub [1, 2, 3, 4, 5, 6, 7, 8, 9, 10, 11, 12, 13, 0] rfl ?_
    exact k_L_isSeat_1040 hT hl C hr hnm htab  h
  · refine V_iload (pc := 1022) C dL_isSeat_1022 0 rfl ?_
    refine V_bipush (pc := 1024) C (v := 9) dL_isSeat_1024 rfl ?_
    refine V_icmp_ge (pc := 1026) (tgt := 1040) C dL_isSeat_1026 (by decide) h (fun h => ?_) (fun h => ?_)
    · refine V_sub [1, 2, 3, 4, 5, 6, 7, 8, 9, 10, 11, 12, 13, 0] rfl ?_
      exact k_L_isSeat_1040 hT hl C hr hnm htab  h
    · refine V_iload (pc := 1029) C dL_isSeat_1029 12 rfl ?_
      refine V_bipush (pc := 1031) C (v := 121) dL_isSeat_1031 rfl ?_
      refine V_icmp_ge (pc := 1033) (tgt := 1040) C dL_isSeat_1033 (by decide) h (fun h => ?_) (fun h => ?_)
      · refine V_sub [1, 2, 3, 4, 5, 6, 7, 8, 9, 10, 11, 12, 13, 0] rfl ?_
        exact k_L_isSeat_1040 hT hl C hr hnm htab  h
      · refine V_iconst (pc := 1036) C (v := 1) dL_isSeat_1036 rfl ?_
        refine V_goto (pc := 1037) (tgt := 1041) C dL_isSeat_1037 (by decide) ?_
        refine V_sub [1, 2, 3, 4, 5, 6, 7, 8, 9, 10, 11, 12, 13, 0] rfl ?_
        exact k_L_isSeat_1041 hT hl C hr hnm htab  h
def w_L_isSeat_972  (Q : Nat → Int32 → Sg → Prop) (y0 : Int32) (y1 : Int32) (S : Sg) : Prop := ((y1 = y0 → Q 0 1 S) ∧ (¬ y1 = y0 → Q 0 0 S))
theorem k_L_isSeat_972 (hT : xT X = tb1) (hl : l.stackTraces = false) (C : Cn X k0 p l R s m meth c cL_isSeat RL 33 14 321) (hr : meth.sig.returnType = (some .boolean)) (hnm : meth.name = yL_isSeat.name) (htab : (∀ x ∈ c.exceptionTable.toList, False))  {y0 : Int32} {y1 : Int32} {S : Sg} (h : w_L_isSeat_972  Qa y0 y1 S) : V X p l e R s m args below meth c 33 (QM X below args s S0 ad0 rvI Qa) S0 ad0 S 972 [] [Value.int y0, Value.int y1] := by
  refine V_icmp_ne (pc := 972) (tgt := 979) C dL_isSeat_972 (by decide) h (fun h => ?_) (fun h => ?_)
  · refine V_iconst (pc := 979) C (v := 0) dL_isSeat_979 rfl ?_
    exact V_zret (pc := 980) C hr (by decide) rfl h dL_isSeat_980
  · refine V_iconst (pc := 975) C (v := 1) dL_isSeat_975 rfl ?_
    refine V_goto (pc := 976) (tgt := 980) C dL_isSeat_976 (by decide) ?_
    exact V_zret (pc := 980) C hr (by decide) rfl h dL_isSeat_980
def w_L_isSeat_921  (Q : Nat → Int32 → Sg → Prop) (x13 : Int32) (x17 : Int32) (x18 : Int32) (x19 : Int32) (x20 : Int32) (x25 : Int32) (y0 : Int32) (S : Sg) : Prop := (w_L_does 12 x13 x17 x18 x19 0 S (fun k37 v36 S35 => (k37 = 0 → ((x20 = 0 → w_L_isSeat_972  Q (-3000000) v36 S35) ∧ (¬ x20 = 0 → ((x19 = 121 → w_L_isSeat_972  Q (-2000000) v36 S35) ∧ (¬ x19 = 121 → ((x25 = 0 → w_L_isSeat_972  Q (-1000000) v36 S35) ∧ (¬ x25 = 0 → w_L_isSeat_972  Q y0 v36 S35))))))) ∧ (¬ k37 = 0 → Q k37 0 S35)))
theorem k_L_isSeat_921 (hT : xT X = tb1) (hl : l.stackTraces = false) (C : Cn X k0 p l R s m meth c cL_isSeat RL 33 14 321) (hr : meth.sig.returnType = (some .boolean)) (hnm : meth.name = yL_isSeat.name) (htab : (∀ x ∈ c.exceptionTable.toList, False))  {x13 : Int32} {x17 : Int32} {x18 : Int32} {x19 : Int32} {x20 : Int32} {x25 : Int32} {y0 : Int32} {S : Sg} (h : w_L_isSeat_921  Qa x13 x17 x18 x19 x20 x25 y0 S) : V X p l e R s m args below meth c 33 (QM X below args s S0 ad0 rvI Qa) S0 ad0 S 921 [(0, Value.ref (enc 0 0)), (13, Value.int x13), (17, Value.int x17), (18, Value.int x18), (19, Value.int x19), (20, Value.int x20), (25, Value.int x25)] [Value.int y0] := by
  refine V_istore (pc := 921) C dL_isSeat_921 (by decide) rfl ?_
  refine V_aload_n (pc := 923) C dL_isSeat_923 rfl 1 rfl ?_
  refine V_bipush (pc := 924) C (v := 12) dL_isSeat_924 rfl ?_
  refine V_iload (pc := 926) C dL_isSeat_926 2 rfl ?_
  refine V_iload (pc := 928) C dL_isSeat_928 3 rfl ?_
  refine V_iload (pc := 930) C dL_isSeat_930 4 rfl ?_
  refine V_iload (pc := 932) C dL_isSeat_932 5 rfl ?_
  refine V_iconst (pc := 934) C (v := 0) dL_isSeat_934 rfl ?_
  refine V_callH (pc := 935) C (ct_L_does hT hl h) g119 g120 g121 g32 ⟨by decide, by decide, pl_L_does⟩ ⟨by decide, by decide⟩ (rest := []) rfl (le8 rfl) dL_isSeat_935 (fun v36 S35 h => ?_) (fun k9 S9 hk h => VX_out C htab hk (h.2 (by omega)))
  replace h := h.1 rfl
  refine V_st (st' := [Value.int v36]) rfl ?_
  refine V_iload (pc := 938) C dL_isSeat_938 6 rfl ?_
  refine V_if_ne (pc := 940) (tgt := 948) C dL_isSeat_940 (by decide) h (fun h => ?_) (fun h => ?_)
  · refine V_iload (pc := 948) C dL_isSeat_948 5 rfl ?_
    refine V_bipush (pc := 950) C (v := 121) dL_isSeat_950 rfl ?_
    refine V_icmp_ne (pc := 952) (tgt := 960) C dL_isSeat_952 (by decide) h (fun h => ?_) (fun h => ?_)
    · refine V_iload (pc := 960) C dL_isSeat_960 7 rfl ?_
      refine V_if_eq (pc := 962) (tgt := 970) C dL_isSeat_962 (by decide) h (fun h => ?_) (fun h => ?_)
      · refine V_ldc (pc := 970) C g781 dL_isSeat_970 ?_
        refine V_sub [] rfl ?_
        exact k_L_isSeat_972 hT hl C hr hnm htab  h
      · refine V_iload (pc := 965) C dL_isSeat_965 0 rfl ?_
        refine V_goto (pc := 967) (tgt := 972) C dL_isSeat_967 (by decide) ?_
        refine V_sub [] rfl ?_
        exact k_L_isSeat_972 hT hl C hr hnm htab  h
    · refine V_ldc (pc := 955) C g780 dL_isSeat_955 ?_
      refine V_goto (pc := 957) (tgt := 972) C dL_isSeat_957 (by decide) ?_
      refine V_sub [] rfl ?_
      exact k_L_isSeat_972 hT hl C hr hnm htab  h
  · refine V_ldc (pc := 943) C g779 dL_isSeat_943 ?_
    refine V_goto (pc := 945) (tgt := 972) C dL_isSeat_945 (by decide) ?_
    refine V_sub [] rfl ?_
    exact k_L_isSeat_972 hT hl C hr hnm htab  h
def w_L_isSeat_885  (Q : Nat → Int32 → Sg → Prop) (x13 : Int32) (x16 : Int32) (x17 : Int32) (x18 : Int32) (x19 : Int32) (x20 : Int32) (y0 : Int32) (S : Sg) : Prop := ((y0 = 0 → w_L_isSeat_921  Q x13 x17 x18 x19 x20 y0 0 S) ∧ (¬ y0 = 0 → (w_L_sells x13 ((x16 * x17) + x18) x19 S (fun k40 v39 S38 => (k40 = 0 → w_L_isSeat_921  Q x13 x17 x18 x19 x20 y0 v39 S38) ∧ (¬ k40 = 0 → Q k40 0 S38)))))
theorem k_L_isSeat_885 (hT : xT X = tb1) (hl : l.stackTraces = false) (C : Cn X k0 p l R s m meth c cL_isSeat RL 33 14 321) (hr : meth.sig.returnType = (some .boolean)) (hnm : meth.name = yL_isSeat.name) (htab : (∀ x ∈ c.exceptionTable.toList, False))  {x13 : Int32} {x16 : Int32} {x17 : Int32} {x18 : Int32} {x19 : Int32} {x20 : Int32} {y0 : Int32} {S : Sg} (h : w_L_isSeat_885  Qa x13 x16 x17 x18 x19 x20 y0 S) : V X p l e R s m args below meth c 33 (QM X below args s S0 ad0 rvI Qa) S0 ad0 S 885 [(0, Value.ref (enc 0 0)), (2, Value.ref (enc 13 4)), (3, Value.ref (enc 13 6)), (4, Value.ref (enc 13 7)), (5, Value.ref (enc 13 8)), (6, Value.ref (enc 13 9)), (9, Value.ref (enc 13 12)), (13, Value.int x13), (16, Value.int x16), (17, Value.int x17), (18, Value.int x18), (19, Value.int x19), (20, Value.int x20)] [Value.int y0] := by
  refine V_istore (pc := 885) C dL_isSeat_885 (by decide) rfl ?_
  refine V_iload (pc := 887) C dL_isSeat_887 0 rfl ?_
  refine V_if_eq (pc := 889) (tgt := 920) C dL_isSeat_889 (by decide) h (fun h => ?_) (fun h => ?_)
  · refine V_iconst (pc := 920) C (v := 0) dL_isSeat_920 rfl ?_
    refine V_sub [1, 8, 10, 11, 12, 13, 0] rfl ?_
    exact k_L_isSeat_921 hT hl C hr hnm htab  h
  · refine V_aload_n (pc := 892) C dL_isSeat_892 rfl 2 rfl ?_
    refine V_aload_n (pc := 893) C dL_isSeat_893 rfl 3 rfl ?_
    refine V_aload (pc := 894) C dL_isSeat_894 4 rfl ?_
    refine V_aload (pc := 896) C dL_isSeat_896 5 rfl ?_
    refine V_aload (pc := 898) C dL_isSeat_898 6 rfl ?_
    refine V_aload (pc := 900) C dL_isSeat_900 7 rfl ?_
    refine V_iload (pc := 902) C dL_isSeat_902 8 rfl ?_
    refine V_iload (pc := 904) C dL_isSeat_904 9 rfl ?_
    refine V_iload (pc := 906) C dL_isSeat_906 10 rfl ?_
    refine V_imul (pc := 908) C dL_isSeat_908 ?_
    refine V_iload (pc := 909) C dL_isSeat_909 11 rfl ?_
    refine V_iadd (pc := 911) C dL_isSeat_911 ?_
    refine V_iload (pc := 912) C dL_isSeat_912 12 rfl ?_
    refine V_callS (pc := 914) C (ct_L_sells hT hl h) g896 g897 g898 g32 ⟨by decide, by decide, pl_L_sells⟩ ⟨by decide, by decide⟩ (rest := []) rfl (le8 rfl) dL_isSeat_914 (fun v39 S38 h => ?_) (fun k9 S9 hk h => VX_out C htab hk (h.2 (by omega)))
    replace h := h.1 rfl
    refine V_st (st' := [Value.int v39]) rfl ?_
    refine V_goto (pc := 917) (tgt := 921) C dL_isSeat_917 (by decide) ?_
    refine V_sub [1, 8, 10, 11, 12, 13, 0] rfl ?_
    exact k_L_isSeat_921 hT hl C hr hnm htab  h
def w_L_isSeat_884  (Q : Nat → Int32 → Sg → Prop) (x13 : Int32) (x16 : Int32) (x17 : Int32) (x18 : Int32) (x19 : Int32) (x20 : Int32) (S : Sg) : Prop := w_L_isSeat_885  Q x13 x16 x17 x18 x19 x20 0 S
theorem k_L_isSeat_884 (hT : xT X = tb1) (hl : l.stackTraces = false) (C : Cn X k0 p l R s m meth c cL_isSeat RL 33 14 321) (hr : meth.sig.returnType = (some .boolean)) (hnm : meth.name = yL_isSeat.name) (htab : (∀ x ∈ c.exceptionTable.toList, False))  {x13 : Int32} {x16 : Int32} {x17 : Int32} {x18 : Int32} {x19 : Int32} {x20 : Int32} {S : Sg} (h : w_L_isSeat_884  Qa x13 x16 x17 x18 x19 x20 S) : V X p l e R s m args below meth c 33 (QM X below args s S0 ad0 rvI Qa) S0 ad0 S 884 [(0, Value.ref (enc 0 0)), (2, Value.ref (enc 13 4)), (3, Value.ref (enc 13 6)), (4, Value.ref (enc 13 7)), (5, Value.ref (enc 13 8)), (6, Value.ref (enc 13 9)), (9, Value.ref (enc 13 12)), (13, Value.int x13), (16, Value.int x16), (17, Value.int x17), (18, Value.int x18), (19, Value.int x19), (20, Value.int x20)] [] := by
  refine V_iconst (pc := 884) C (v := 0) dL_isSeat_884 rfl ?_
  refine V_sub [0, 1, 2, 3, 4, 5, 6, 7, 8, 9, 10, 11, 12] rfl ?_
  exact k_L_isSeat_885 hT hl C hr hnm htab  h
def w_L_isSeat_848  (Q : Nat → Int32 → Sg → Prop) (y0 : Int32) (y1 : Int32) (S : Sg) : Prop := ((y1 = y0 → Q 0 1 S) ∧ (¬ y1 = y0 → Q 0 0 S))
theorem k_L_isSeat_848 (hT : xT X = tb1) (hl : l.stackTraces = false) (C : Cn X k0 p l R s m meth c cL_isSeat RL 33 14 321) (hr : meth.sig.returnType = (some .boolean)) (hnm : meth.name = yL_isSeat.name) (htab : (∀ x ∈ c.exceptionTable.toList, False))  {y0 : Int32} {y1 : Int32} {S : Sg} (h : w_L_isSeat_848  Qa y0 y1 S) : V X p l e R s m args below meth c 33 (QM X below args s S0 ad0 rvI Qa) S0 ad0 S 848 [] [Value.int y0, Value.int y1] := by
  refine V_icmp_ne (pc := 848) (tgt := 855) C dL_isSeat_848 (by decide) h (fun h => ?_) (fun h => ?_)
  · refine V_iconst (pc := 855) C (v := 0) dL_isSeat_855 rfl ?_
    exact V_zret (pc := 856) C hr (by decide) rfl h dL_isSeat_856
  · refine V_iconst (pc := 851) C (v := 1) dL_isSeat_851 rfl ?_
    refine V_goto (pc := 852) (tgt := 856) C dL_isSeat_852 (by decide) ?_
    exact V_zret (pc := 856) C hr (by decide) rfl h dL_isSeat_856
def w_L_isSeat_796  (Q : Nat → Int32 → Sg → Prop) (x19 : Int32) (x23 : Int32) (x25 : Int32) (x26 : Int32) (S : Sg) : Prop := (w_L_does 11 x23 x19 0 0 0 S (fun k43 v42 S41 => (k43 = 0 → (vp_in 6 8 ∧ ((x23 = (S41.1 112 (nt 6)) → w_L_isSeat_848  Q (-3000000) v42 S41) ∧ (¬ x23 = (S41.1 112 (nt 6)) → ((x19 = 121 → w_L_isSeat_848  Q (-2000000) v42 S41) ∧ (¬ x19 = 121 → ((x25 = 0 → w_L_isSeat_848  Q (-1000000) v42 S41) ∧ (¬ x25 = 0 → w_L_isSeat_848  Q x26 v42 S41)))))))) ∧ (¬ k43 = 0 → Q k43 0 S41)))
theorem k_L_isSeat_796 (hT : xT X = tb1) (hl : l.stackTraces = false) (C : Cn X k0 p l R s m meth c cL_isSeat RL 33 14 321) (hr : meth.sig.returnType = (some .boolean)) (hnm : meth.name = yL_isSeat.name) (htab : (∀ x ∈ c.exceptionTable.toList, False))  {x19 : Int32} {x23 : Int32} {x25 : Int32} {x26 : Int32} {S : Sg} (h : w_L_isSeat_796  Qa x19 x23 x25 x26 S) : V X p l e R s m args below meth c 33 (QM X below args s S0 ad0 rvI Qa) S0 ad0 S 796 [(0, Value.ref (enc 0 0)), (9, Value.ref (enc 13 12)), (19, Value.int x19), (23, Value.int x23), (25, Value.int x25), (26, Value.int x26)] [] := by
  refine V_aload_n (pc := 796) C dL_isSeat_796 rfl 0 rfl ?_
  refine V_bipush (pc := 797) C (v := 11) dL_isSeat_797 rfl ?_
  refine V_iload (pc := 799) C dL_isSeat_799 3 rfl ?_
  refine V_iload (pc := 801) C dL_isSeat_801 2 rfl ?_
  refine V_iconst (pc := 803) C (v := 0) dL_isSeat_803 rfl ?_
  refine V_iconst (pc := 804) C (v := 0) dL_isSeat_804 rfl ?_
  refine V_iconst (pc := 805) C (v := 0) dL_isSeat_805 rfl ?_
  refine V_callH (pc := 806) C (ct_L_does hT hl h) g119 g120 g121 g32 ⟨by decide, by decide, pl_L_does⟩ ⟨by decide, by decide⟩ (rest := []) rfl (le8 rfl) dL_isSeat_806 (fun v42 S41 h => ?_) (fun k9 S9 hk h => VX_out C htab hk (h.2 (by omega)))
  replace h := h.1 rfl
  refine V_st (st' := [Value.int v42]) rfl ?_
  refine V_iload (pc := 809) C dL_isSeat_809 3 rfl ?_
  refine V_aload (pc := 811) C dL_isSeat_811 1 rfl ?_
  refine V_bipush (pc := 813) C (v := 6) dL_isSeat_813 rfl ?_
  refine V_mld (pc := 815) C hT tb1_arr (n := 8) (c9 := 112) rfl rfl rfl h dL_isSeat_815 (fun h => ?_)
  refine V_icmp_ne (pc := 816) (tgt := 824) C dL_isSeat_816 (by decide) h (fun h => ?_) (fun h => ?_)
  · refine V_iload (pc := 824) C dL_isSeat_824 2 rfl ?_
    refine V_bipush (pc := 826) C (v := 121) dL_isSeat_826 rfl ?_
    refine V_icmp_ne (pc := 828) (tgt := 836) C dL_isSeat_828 (by decide) h (fun h => ?_) (fun h => ?_)
    · refine V_iload (pc := 836) C dL_isSeat_836 4 rfl ?_
      refine V_if_eq (pc := 838) (tgt := 846) C dL_isSeat_838 (by decide) h (fun h => ?_) (fun h => ?_)
      · refine V_ldc (pc := 846) C g781 dL_isSeat_846 ?_
        refine V_sub [] rfl ?_
        exact k_L_isSeat_848 hT hl C hr hnm htab  h
      · refine V_iload (pc := 841) C dL_isSeat_841 5 rfl ?_
        refine V_goto (pc := 843) (tgt := 848) C dL_isSeat_843 (by decide) ?_
        refine V_sub [] rfl ?_
        exact k_L_isSeat_848 hT hl C hr hnm htab  h
    · refine V_ldc (pc := 831) C g780 dL_isSeat_831 ?_
      refine V_goto (pc := 833) (tgt := 848) C dL_isSeat_833 (by decide) ?_
      refine V_sub [] rfl ?_
      exact k_L_isSeat_848 hT hl C hr hnm htab  h
  · refine V_ldc (pc := 819) C g779 dL_isSeat_819 ?_
    refine V_goto (pc := 821) (tgt := 848) C dL_isSeat_821 (by decide) ?_
    refine V_sub [] rfl ?_
    exact k_L_isSeat_848 hT hl C hr hnm htab  h
def w_L_isSeat_739  (Q : Nat → Int32 → Sg → Prop) (x19 : Int32) (x23 : Int32) (y0 : Int32) (S : Sg) : Prop := ((y0 = 0 → w_L_isSeat_796  Q x19 x23 y0 0 S) ∧ (¬ y0 = 0 → (vp_in x23 48 ∧ (vp_in x23 48 ∧ (∀ S44, S44 = su S 110 (nt x23) ((S.1 110 (nt x23)) + 128) → (vp_in x23 48 ∧ (vp_in x23 48 ∧ (w_L_sells ((S44.1 110 (nt x23)) - (S44.1 110 (nt x23)) / 8 * 8) (((S44.1 110 (nt x23)) / 8) - ((S44.1 110 (nt x23)) / 8) / 16 * 16) x19 S44 (fun k47 v46 S45 => (k47 = 0 → w_L_isSeat_796  Q x19 x23 y0 v46 S45) ∧ (¬ k47 = 0 → Q k47 0 S45))))))))))
theorem k_L_isSeat_739 (hT : xT X = tb1) (hl : l.stackTraces = false) (C : Cn X k0 p l R s m meth c cL_isSeat RL 33 14 321) (hr : meth.sig.returnType = (some .boolean)) (hnm : meth.name = yL_isSeat.name) (htab : (∀ x ∈ c.exceptionTable.toList, False))  {x19 : Int32} {x23 : Int32} {y0 : Int32} {S : Sg} (h : w_L_isSeat_739  Qa x19 x23 y0 S) : V X p l e R s m args below meth c 33 (QM X below args s S0 ad0 rvI Qa) S0 ad0 S 739 [(0, Value.ref (enc 0 0)), (2, Value.ref (enc 13 4)), (3, Value.ref (enc 13 6)), (4, Value.ref (enc 13 7)), (5, Value.ref (enc 13 8)), (6, Value.ref (enc 13 9)), (7, Value.ref (enc 13 10)), (9, Value.ref (enc 13 12)), (19, Value.int x19), (23, Value.int x23)] [Value.int y0] := by
  refine V_istore (pc := 739) C dL_isSeat_739 (by decide) rfl ?_
  refine V_iconst (pc := 741) C (v := 0) dL_isSeat_741 rfl ?_
  refine V_istore (pc := 742) C dL_isSeat_742 (by decide) rfl ?_
  refine V_iload (pc := 744) C dL_isSeat_744 1 rfl ?_
  refine V_if_eq (pc := 746) (tgt := 796) C dL_isSeat_746 (by decide) h (fun h => ?_) (fun h => ?_)
  · refine V_sub [2, 9, 10, 11, 1, 0] rfl ?_
    exact k_L_isSeat_796 hT hl C hr hnm htab  h
  · refine V_aload (pc := 749) C dL_isSeat_749 8 rfl ?_
    refine V_iload (pc := 751) C dL_isSeat_751 11 rfl ?_
    refine V_dup2 (pc := 753) C dL_isSeat_753 rfl rfl ?_
    refine V_mld (pc := 754) C hT tb1_arr (n := 48) (c9 := 110) rfl rfl rfl h dL_isSeat_754 (fun h => ?_)
    refine V_sipush (pc := 755) C (v := 128) dL_isSeat_755 rfl ?_
    refine V_iadd (pc := 758) C dL_isSeat_758 ?_
    refine V_mst (pc := 759) C hT tb1_arr (n := 48) (c9 := 110) (by decide) rfl rfl rfl h dL_isSeat_759 (fun h => V_nx fun S44 e9 => ?_)
    replace h := h S44 e9; clear e9
    refine V_aload_n (pc := 760) C dL_isSeat_760 rfl 3 rfl ?_
    refine V_aload_n (pc := 761) C dL_isSeat_761 rfl 4 rfl ?_
    refine V_aload (pc := 762) C dL_isSeat_762 5 rfl ?_
    refine V_aload (pc := 764) C dL_isSeat_764 6 rfl ?_
    refine V_aload (pc := 766) C dL_isSeat_766 7 rfl ?_
    refine V_aload (pc := 768) C dL_isSeat_768 9 rfl ?_
    refine V_aload (pc := 770) C dL_isSeat_770 8 rfl ?_
    refine V_iload (pc := 772) C dL_isSeat_772 11 rfl ?_
    refine V_mld (pc := 774) C hT tb1_arr (n := 48) (c9 := 110) rfl rfl rfl h dL_isSeat_774 (fun h => ?_)
    refine V_bipush (pc := 775) C (v := 8) dL_isSeat_775 rfl ?_
    refine V_irem (pc := 777) C dL_isSeat_777 (by decide) ?_
    refine V_aload (pc := 778) C dL_isSeat_778 8 rfl ?_
    refine V_iload (pc := 780) C dL_isSeat_780 11 rfl ?_
    refine V_mld (pc := 782) C hT tb1_arr (n := 48) (c9 := 110) rfl rfl rfl h dL_isSeat_782 (fun h => ?_)
    refine V_bipush (pc := 783) C (v := 8) dL_isSeat_783 rfl ?_
    refine V_idiv (pc := 785) C dL_isSeat_785 (by decide) ?_
    refine V_bipush (pc := 786) C (v := 16) dL_isSeat_786 rfl ?_
    refine V_irem (pc := 788) C dL_isSeat_788 (by decide) ?_
    refine V_iload (pc := 789) C dL_isSeat_789 10 rfl ?_
    refine V_callS (pc := 791) C (ct_L_sells hT hl h) g896 g897 g898 g32 ⟨by decide, by decide, pl_L_sells⟩ ⟨by decide, by decide⟩ (rest := []) rfl (le8 rfl) dL_isSeat_791 (fun v46 S45 h => ?_) (fun k9 S9 hk h => VX_out C htab hk (h.2 (by omega)))
    replace h := h.1 rfl
    refine V_st (st' := [Value.int v46]) rfl ?_
    refine V_istore (pc := 794) C dL_isSeat_794 (by decide) rfl ?_
    refine V_sub [2, 9, 10, 11, 1, 0] rfl ?_
    exact k_L_isSeat_796 hT hl C hr hnm htab  h
def w_L_isSeat_738  (Q : Nat → Int32 → Sg → Prop) (x19 : Int32) (x23 : Int32) (S : Sg) : Prop := w_L_isSeat_739  Q x19 x23 0 S
theorem k_L_isSeat_738 (hT : xT X = tb1) (hl : l.stackTraces = false) (C : Cn X k0 p l R s m meth c cL_isSeat RL 33 14 321) (hr : meth.sig.returnType = (some .boolean)) (hnm : meth.name = yL_isSeat.name) (htab : (∀ x ∈ c.exceptionTable.toList, False))  {x19 : Int32} {x23 : Int32} {S : Sg} (h : w_L_isSeat_738  Qa x19 x23 S) : V X p l e R s m args below meth c 33 (QM X below args s S0 ad0 rvI Qa) S0 ad0 S 738 [(0, Value.ref (enc 0 0)), (2, Value.ref (enc 13 4)), (3, Value.ref (enc 13 6)), (4, Value.ref (enc 13 7)), (5, Value.ref (enc 13 8)), (6, Value.ref (enc 13 9)), (7, Value.ref (enc 13 10)), (9, Value.ref (enc 13 12)), (19, Value.int x19), (23, Value.int x23)] [] := by
  refine V_iconst (pc := 738) C (v := 0) dL_isSeat_738 rfl ?_
  refine V_sub [0, 1, 2, 3, 4, 5, 6, 7, 8, 9] rfl ?_
  exact k_L_isSeat_739 hT hl C hr hnm htab  h
def w_L_isSeat_683  (Q : Nat → Int32 → Sg → Prop) (y0 : Int32) (y1 : Int32) (S : Sg) : Prop := ((y1 = y0 → Q 0 1 S) ∧ (¬ y1 = y0 → Q 0 0 S))
theorem k_L_isSeat_683 (hT : xT X = tb1) (hl : l.stackTraces = false) (C : Cn X k0 p l R s m meth c cL_isSeat RL 33 14 321) (hr : meth.sig.returnType = (some .boolean)) (hnm : meth.name = yL_isSeat.name) (htab : (∀ x ∈ c.exceptionTable.toList, False))  {y0 : Int32} {y1 : Int32} {S : Sg} (h : w_L_isSeat_683  Qa y0 y1 S) : V X p l e R s m args below meth c 33 (QM X below args s S0 ad0 rvI Qa) S0 ad0 S 683 [] [Value.int y0, Value.int y1] := by
  refine V_icmp_ne (pc := 683) (tgt := 690) C dL_isSeat_683 (by decide) h (fun h => ?_) (fun h => ?_)
  · refine V_iconst (pc := 690) C (v := 0) dL_isSeat_690 rfl ?_
    exact V_zret (pc := 691) C hr (by decide) rfl h dL_isSeat_691
  · refine V_iconst (pc := 686) C (v := 1) dL_isSeat_686 rfl ?_
    refine V_goto (pc := 687) (tgt := 691) C dL_isSeat_687 (by decide) ?_
    exact V_zret (pc := 691) C hr (by decide) rfl h dL_isSeat_691
def w_L_isSeat_644  (Q : Nat → Int32 → Sg → Prop) (x23 : Int32) (x24 : Int32) (x25 : Int32) (S : Sg) : Prop := (w_L_does 10 x23 0 0 0 0 S (fun k50 v49 S48 => (k50 = 0 → (vp_in 6 8 ∧ ((x23 = (S48.1 112 (nt 6)) → w_L_isSeat_683  Q (-3000000) v49 S48) ∧ (¬ x23 = (S48.1 112 (nt 6)) → ((x24 = 0 → w_L_isSeat_683  Q (-1000000) v49 S48) ∧ (¬ x24 = 0 → w_L_isSeat_683  Q x25 v49 S48)))))) ∧ (¬ k50 = 0 → Q k50 0 S48)))
theorem k_L_isSeat_644 (hT : xT X = tb1) (hl : l.stackTraces = false) (C : Cn X k0 p l R s m meth c cL_isSeat RL 33 14 321) (hr : meth.sig.returnType = (some .boolean)) (hnm : meth.name = yL_isSeat.name) (htab : (∀ x ∈ c.exceptionTable.toList, False))  {x23 : Int32} {x24 : Int32} {x25 : Int32} {S : Sg} (h : w_L_isSeat_644  Qa x23 x24 x25 S) : V X p l e R s m args below meth c 33 (QM X below args s S0 ad0 rvI Qa) S0 ad0 S 644 [(0, Value.ref (enc 0 0)), (9, Value.ref (enc 13 12)), (23, Value.int x23), (24, Value.int x24), (25, Value.int x25)] [] := by
  refine V_aload_n (pc := 644) C dL_isSeat_644 rfl 0 rfl ?_
  refine V_bipush (pc := 645) C (v := 10) dL_isSeat_645 rfl ?_
  refine V_iload (pc := 647) C dL_isSeat_647 2 rfl ?_
  refine V_iconst (pc := 649) C (v := 0) dL_isSeat_649 rfl ?_
  refine V_iconst (pc := 650) C (v := 0) dL_isSeat_650 rfl ?_
  refine V_iconst (pc := 651) C (v := 0) dL_isSeat_651 rfl ?_
  refine V_iconst (pc := 652) C (v := 0) dL_isSeat_652 rfl ?_
  refine V_callH (pc := 653) C (ct_L_does hT hl h) g119 g120 g121 g32 ⟨by decide, by decide, pl_L_does⟩ ⟨by decide, by decide⟩ (rest := []) rfl (le8 rfl) dL_isSeat_653 (fun v49 S48 h => ?_) (fun k9 S9 hk h => VX_out C htab hk (h.2 (by omega)))
  replace h := h.1 rfl
  refine V_st (st' := [Value.int v49]) rfl ?_
  refine V_iload (pc := 656) C dL_isSeat_656 2 rfl ?_
  refine V_aload (pc := 658) C dL_isSeat_658 1 rfl ?_
  refine V_bipush (pc := 660) C (v := 6) dL_isSeat_660 rfl ?_
  refine V_mld (pc := 662) C hT tb1_arr (n := 8) (c9 := 112) rfl rfl rfl h dL_isSeat_662 (fun h => ?_)
  refine V_icmp_ne (pc := 663) (tgt := 671) C dL_isSeat_663 (by decide) h (fun h => ?_) (fun h => ?_)
  · refine V_iload (pc := 671) C dL_isSeat_671 3 rfl ?_
    refine V_if_eq (pc := 673) (tgt := 681) C dL_isSeat_673 (by decide) h (fun h => ?_) (fun h => ?_)
    · refine V_ldc (pc := 681) C g781 dL_isSeat_681 ?_
      refine V_sub [] rfl ?_
      exact k_L_isSeat_683 hT hl C hr hnm htab  h
    · refine V_iload (pc := 676) C dL_isSeat_676 4 rfl ?_
      refine V_goto (pc := 678) (tgt := 683) C dL_isSeat_678 (by decide) ?_
      refine V_sub [] rfl ?_
      exact k_L_isSeat_683 hT hl C hr hnm htab  h
  · refine V_ldc (pc := 666) C g779 dL_isSeat_666 ?_
    refine V_goto (pc := 668) (tgt := 683) C dL_isSeat_668 (by decide) ?_
    refine V_sub [] rfl ?_
    exact k_L_isSeat_683 hT hl C hr hnm htab  h
def w_L_isSeat_581  (Q : Nat → Int32 → Sg → Prop) (x10 : Int32) (x11 : Int32) (x13 : Int32) (x14 : Int32) (x15 : Int32) (x16 : Int32) (x17 : Int32) (x18 : Int32) (x19 : Int32) (x20 : Int32) (x21 : Int32) (x22 : Int32) (x23 : Int32) (y0 : Int32) (S : Sg) : Prop := ((x10 = 1 → ((y0 = 0 → w_L_isSeat_644  Q x23 y0 (-1) S) ∧ (¬ y0 = 0 → (vp_in x23 48 ∧ (vp_in x23 48 ∧ (∀ S52, S52 = su S 110 (nt x23) ((S.1 110 (nt x23)) + 128) → (vp_in x23 48 ∧ (vp_in x23 48 ∧ (w_L_frees ((S52.1 110 (nt x23)) - (S52.1 110 (nt x23)) / 8 * 8) (((S52.1 110 (nt x23)) / 8) - ((S52.1 110 (nt x23)) / 8) / 16 * 16) S52 (fun k55 v54 S53 => (k55 = 0 → w_L_isSeat_644  Q x23 y0 v54 S53) ∧ (¬ k55 = 0 → Q k55 0 S53))))))))))) ∧ (¬ x10 = 1 → ((x10 = 2 → ((y0 = 0 → w_L_isSeat_738  Q x19 x23 S) ∧ (¬ y0 = 0 → ((121 ≤ x19 → w_L_isSeat_738  Q x19 x23 S) ∧ (¬ 121 ≤ x19 → (vp_in x23 48 ∧ (vp_in ((S.1 110 (nt x23)) - (S.1 110 (nt x23)) / 8 * 8) 11 ∧ (vp_in ((8 * ((S.1 106 (nt ((S.1 110 (nt x23)) - (S.1 110 (nt x23)) / 8 * 8))) - (S.1 106 (nt ((S.1 110 (nt x23)) - (S.1 110 (nt x23)) / 8 * 8))) / 4 * 4)) + 1) 24 ∧ ((x19 < (S.1 104 (nt ((8 * ((S.1 106 (nt ((S.1 110 (nt x23)) - (S.1 110 (nt x23)) / 8 * 8))) - (S.1 106 (nt ((S.1 110 (nt x23)) - (S.1 110 (nt x23)) / 8 * 8))) / 4 * 4)) + 1))) → w_L_isSeat_738  Q x19 x23 S) ∧ (¬ x19 < (S.1 104 (nt ((8 * ((S.1 106 (nt ((S.1 110 (nt x23)) - (S.1 110 (nt x23)) / 8 * 8))) - (S.1 106 (nt ((S.1 110 (nt x23)) - (S.1 110 (nt x23)) / 8 * 8))) / 4 * 4)) + 1))) → w_L_isSeat_739  Q x19 x23 1 S)))))))))) ∧ (¬ x10 = 2 → ((x10 = 3 → ((x21 = 0 → w_L_isSeat_884  Q x13 x16 x17 x18 x19 x20 S) ∧ (¬ x21 = 0 → ((121 ≤ x19 → w_L_isSeat_884  Q x13 x16 x17 x18 x19 x20 S) ∧ (¬ 121 ≤ x19 → ((x22 = 0 → w_L_isSeat_884  Q x13 x16 x17 x18 x19 x20 S) ∧ (¬ x22 = 0 → w_L_isSeat_885  Q x13 x16 x17 x18 x19 x20 1 S))))))) ∧ (¬ x10 = 3 → ((x10 = 4 → ((((x11 / 6) - (x11 / 6) / 9 * 9) = 8 → w_L_isSeat_1014  Q x13 x14 x15 x16 x19 x22 9 S) ∧ (¬ ((x11 / 6) - (x11 / 6) / 9 * 9) = 8 → w_L_isSeat_1014  Q x13 x14 x15 x16 x19 x22 (1 + ((x11 / 6) - (x11 / 6) / 4 * 4)) S))) ∧ (¬ x10 = 4 → ((x10 = 5 → (vp_in 7 8 ∧ (¬ ((S.1 112 (nt 7)) + 1) = 0 ∧ (∀ v51, v51 = x11 - x11 / ((S.1 112 (nt 7)) + 1) * ((S.1 112 (nt 7)) + 1) → (vp_in 7 8 ∧ (((S.1 112 (nt 7)) ≤ v51 → w_L_isSeat_1409  Q v51 0 S) ∧ (¬ (S.1 112 (nt 7)) ≤ v51 → w_L_isSeat_1409  Q v51 1 S))))))) ∧ (¬ x10 = 5 → ((((x11 / 6) - (x11 / 6) / 2 * 2) = 0 → w_L_isSeat_1574  Q x13 x14 x15 x16 x19 x22 1 S) ∧ (¬ ((x11 / 6) - (x11 / 6) / 2 * 2) = 0 → w_L_isSeat_1574  Q x13 x14 x15 x16 x19 x22 0 S))))))))))))
theorem k_L_isSeat_581 (hT : xT X = tb1) (hl : l.stackTraces = false) (C : Cn X k0 p l R s m meth c cL_isSeat RL 33 14 321) (hr : meth.sig.returnType = (some .boolean)) (hnm : meth.name = yL_isSeat.name) (htab : (∀ x ∈ c.exceptionTable.toList, False))  {x10 : Int32} {x11 : Int32} {x13 : Int32} {x14 : Int32} {x15 : Int32} {x16 : Int32} {x17 : Int32} {x18 : Int32} {x19 : Int32} {x20 : Int32} {x21 : Int32} {x22 : Int32} {x23 : Int32} {y0 : Int32} {S : Sg} (h : w_L_isSeat_581  Qa x10 x11 x13 x14 x15 x16 x17 x18 x19 x20 x21 x22 x23 y0 S) : V X p l e R s m args below meth c 33 (QM X below args s S0 ad0 rvI Qa) S0 ad0 S 581 [(0, Value.ref (enc 0 0)), (2, Value.ref (enc 13 4)), (3, Value.ref (enc 13 6)), (4, Value.ref (enc 13 7)), (5, Value.ref (enc 13 8)), (6, Value.ref (enc 13 9)), (7, Value.ref (enc 13 10)), (8, Value.ref (enc 13 11)), (9, Value.ref (enc 13 12)), (10, Value.int x10), (11, Value.int x11), (13, Value.int x13), (14, Value.int x14), (15, Value.int x15), (16, Value.int x16), (17, Value.int x17), (18, Value.int x18), (19, Value.int x19), (20, Value.int x20), (21, Value.int x21), (22, Value.int x22), (23, Value.int x23)] [Value.int y0] := by
  refine V_istore (pc := 581) C dL_isSeat_581 (by decide) rfl ?_
  refine V_iload (pc := 583) C dL_isSeat_583 10 rfl ?_
  refine V_iconst (pc := 585) C (v := 1) dL_isSeat_585 rfl ?_
  refine V_icmp_ne (pc := 586) (tgt := 692) C dL_isSeat_586 (by decide) h (fun h => ?_) (fun h => ?_)
  · refine V_iload (pc := 692) C dL_isSeat_692 10 rfl ?_
    refine V_iconst (pc := 694) C (v := 2) dL_isSeat_694 rfl ?_
    refine V_icmp_ne (pc := 695) (tgt := 857) C dL_isSeat_695 (by decide) h (fun h => ?_) (fun h => ?_)
    · refine V_iload (pc := 857) C dL_isSeat_857 10 rfl ?_
      refine V_iconst (pc := 859) C (v := 3) dL_isSeat_859 rfl ?_
      refine V_icmp_ne (pc := 860) (tgt := 981) C dL_isSeat_860 (by decide) h (fun h => ?_) (fun h => ?_)
      · refine V_iload (pc := 981) C dL_isSeat_981 10 rfl ?_
        refine V_iconst (pc := 983) C (v := 4) dL_isSeat_983 rfl ?_
        refine V_icmp_ne (pc := 984) (tgt := 1376) C dL_isSeat_984 (by decide) h (fun h => ?_) (fun h => ?_)
        · refine V_iload (pc := 1376) C dL_isSeat_1376 10 rfl ?_
          refine V_iconst (pc := 1378) C (v := 5) dL_isSeat_1378 rfl ?_
          refine V_icmp_ne (pc := 1379) (tgt := 1559) C dL_isSeat_1379 (by decide) h (fun h => ?_) (fun h => ?_)
          · refine V_iload (pc := 1559) C dL_isSeat_1559 11 rfl ?_
            refine V_bipush (pc := 1561) C (v := 6) dL_isSeat_1561 rfl ?_
            refine V_idiv (pc := 1563) C dL_isSeat_1563 (by decide) ?_
            refine V_iconst (pc := 1564) C (v := 2) dL_isSeat_1564 rfl ?_
            refine V_irem (pc := 1565) C dL_isSeat_1565 (by decide) ?_
            refine V_if_ne (pc := 1566) (tgt := 1573) C dL_isSeat_1566 (by decide) h (fun h => ?_) (fun h => ?_)
            · refine V_iconst (pc := 1573) C (v := 0) dL_isSeat_1573 rfl ?_
              refine V_sub [1, 3, 4, 8, 12, 13, 14, 15, 18, 21] rfl ?_
              exact k_L_isSeat_1574 hT hl C hr hnm htab  h
            · refine V_iconst (pc := 1569) C (v := 1) dL_isSeat_1569 rfl ?_
              refine V_goto (pc := 1570) (tgt := 1574) C dL_isSeat_1570 (by decide) ?_
              refine V_sub [1, 3, 4, 8, 12, 13, 14, 15, 18, 21] rfl ?_
              exact k_L_isSeat_1574 hT hl C hr hnm htab  h
          · refine V_iload (pc := 1382) C dL_isSeat_1382 11 rfl ?_
            refine V_aload (pc := 1384) C dL_isSeat_1384 9 rfl ?_
            refine V_bipush (pc := 1386) C (v := 7) dL_isSeat_1386 rfl ?_
            refine V_mld (pc := 1388) C hT tb1_arr (n := 8) (c9 := 112) rfl rfl rfl h dL_isSeat_1388 (fun h => ?_)
            refine V_iconst (pc := 1389) C (v := 1) dL_isSeat_1389 rfl ?_
            refine V_iadd (pc := 1390) C dL_isSeat_1390 ?_
            refine V_irem (pc := 1391) C dL_isSeat_1391 h.1 ?_
            replace h := h.2
            refine V_nI fun v51 e9 => ?_
            replace h := h v51 e9; clear e9
            refine V_istore (pc := 1392) C dL_isSeat_1392 (by decide) rfl ?_
            refine V_iload (pc := 1394) C dL_isSeat_1394 0 rfl ?_
            refine V_aload (pc := 1396) C dL_isSeat_1396 10 rfl ?_
            refine V_bipush (pc := 1398) C (v := 7) dL_isSeat_1398 rfl ?_
            refine V_mld (pc := 1400) C hT tb1_arr (n := 8) (c9 := 112) rfl rfl rfl h dL_isSeat_1400 (fun h => ?_)
            refine V_icmp_ge (pc := 1401) (tgt := 1408) C dL_isSeat_1401 (by decide) h (fun h => ?_) (fun h => ?_)
            · refine V_iconst (pc := 1408) C (v := 0) dL_isSeat_1408 rfl ?_
              refine V_sub [2, 3, 4, 5, 6, 7, 9, 10, 0] rfl ?_
              exact k_L_isSeat_1409 hT hl C hr hnm htab  h
            · refine V_iconst (pc := 1404) C (v := 1) dL_isSeat_1404 rfl ?_
              refine V_goto (pc := 1405) (tgt := 1409) C dL_isSeat_1405 (by decide) ?_
              refine V_sub [2, 3, 4, 5, 6, 7, 9, 10, 0] rfl ?_
              exact k_L_isSeat_1409 hT hl C hr hnm htab  h
        · refine V_iload (pc := 987) C dL_isSeat_987 11 rfl ?_
          refine V_bipush (pc := 989) C (v := 6) dL_isSeat_989 rfl ?_
          refine V_idiv (pc := 991) C dL_isSeat_991 (by decide) ?_
          refine V_bipush (pc := 992) C (v := 9) dL_isSeat_992 rfl ?_
          refine V_irem (pc := 994) C dL_isSeat_994 (by decide) ?_
          refine V_bipush (pc := 995) C (v := 8) dL_isSeat_995 rfl ?_
          refine V_icmp_ne (pc := 997) (tgt := 1005) C dL_isSeat_997 (by decide) h (fun h => ?_) (fun h => ?_)
          · refine V_iconst (pc := 1005) C (v := 1) dL_isSeat_1005 rfl ?_
            refine V_iload (pc := 1006) C dL_isSeat_1006 11 rfl ?_
            refine V_bipush (pc := 1008) C (v := 6) dL_isSeat_1008 rfl ?_
            refine V_idiv (pc := 1010) C dL_isSeat_1010 (by decide) ?_
            refine V_iconst (pc := 1011) C (v := 4) dL_isSeat_1011 rfl ?_
            refine V_irem (pc := 1012) C dL_isSeat_1012 (by decide) ?_
            refine V_iadd (pc := 1013) C dL_isSeat_1013 ?_
            refine V_sub [1, 2, 3, 4, 5, 6, 9, 12, 13, 14, 15, 18, 21] rfl ?_
            exact k_L_isSeat_1014 hT hl C hr hnm htab  h
          · refine V_bipush (pc := 1000) C (v := 9) dL_isSeat_1000 rfl ?_
            refine V_goto (pc := 1002) (tgt := 1014) C dL_isSeat_1002 (by decide) ?_
            refine V_sub [1, 2, 3, 4, 5, 6, 9, 12, 13, 14, 15, 18, 21] rfl ?_
            exact k_L_isSeat_1014 hT hl C hr hnm htab  h
      · refine V_iload (pc := 863) C dL_isSeat_863 20 rfl ?_
        refine V_if_eq (pc := 865) (tgt := 884) C dL_isSeat_865 (by decide) h (fun h => ?_) (fun h => ?_)
        · refine V_sub [1, 2, 3, 4, 5, 6, 9, 12, 15, 16, 17, 18, 19] rfl ?_
          exact k_L_isSeat_884 hT hl C hr hnm htab  h
        · refine V_iload (pc := 868) C dL_isSeat_868 18 rfl ?_
          refine V_bipush (pc := 870) C (v := 121) dL_isSeat_870 rfl ?_
          refine V_icmp_ge (pc := 872) (tgt := 884) C dL_isSeat_872 (by decide) h (fun h => ?_) (fun h => ?_)
          · refine V_sub [1, 2, 3, 4, 5, 6, 9, 12, 15, 16, 17, 18, 19] rfl ?_
            exact k_L_isSeat_884 hT hl C hr hnm htab  h
          · refine V_iload (pc := 875) C dL_isSeat_875 21 rfl ?_
            refine V_if_eq (pc := 877) (tgt := 884) C dL_isSeat_877 (by decide) h (fun h => ?_) (fun h => ?_)
            · refine V_sub [1, 2, 3, 4, 5, 6, 9, 12, 15, 16, 17, 18, 19] rfl ?_
              exact k_L_isSeat_884 hT hl C hr hnm htab  h
            · refine V_iconst (pc := 880) C (v := 1) dL_isSeat_880 rfl ?_
              refine V_goto (pc := 881) (tgt := 885) C dL_isSeat_881 (by decide) ?_
              refine V_sub [1, 2, 3, 4, 5, 6, 9, 12, 15, 16, 17, 18, 19] rfl ?_
              exact k_L_isSeat_885 hT hl C hr hnm htab  h
    · refine V_iload (pc := 698) C dL_isSeat_698 0 rfl ?_
      refine V_if_eq (pc := 700) (tgt := 738) C dL_isSeat_700 (by decide) h (fun h => ?_) (fun h => ?_)
      · refine V_sub [1, 2, 3, 4, 5, 6, 7, 9, 18, 22] rfl ?_
        exact k_L_isSeat_738 hT hl C hr hnm htab  h
      · refine V_iload (pc := 703) C dL_isSeat_703 18 rfl ?_
        refine V_bipush (pc := 705) C (v := 121) dL_isSeat_705 rfl ?_
        refine V_icmp_ge (pc := 707) (tgt := 738) C dL_isSeat_707 (by decide) h (fun h => ?_) (fun h => ?_)
        · refine V_sub [1, 2, 3, 4, 5, 6, 7, 9, 18, 22] rfl ?_
          exact k_L_isSeat_738 hT hl C hr hnm htab  h
        · refine V_iload (pc := 710) C dL_isSeat_710 18 rfl ?_
          refine V_aload_n (pc := 712) C dL_isSeat_712 rfl 2 rfl ?_
          refine V_bipush (pc := 713) C (v := 8) dL_isSeat_713 rfl ?_
          refine V_aload_n (pc := 715) C dL_isSeat_715 rfl 3 rfl ?_
          refine V_aload (pc := 716) C dL_isSeat_716 7 rfl ?_
          refine V_iload (pc := 718) C dL_isSeat_718 22 rfl ?_
          refine V_mld (pc := 720) C hT tb1_arr (n := 48) (c9 := 110) rfl rfl rfl h dL_isSeat_720 (fun h => ?_)
          refine V_bipush (pc := 721) C (v := 8) dL_isSeat_721 rfl ?_
          refine V_irem (pc := 723) C dL_isSeat_723 (by decide) ?_
          refine V_mld (pc := 724) C hT tb1_arr (n := 11) (c9 := 106) rfl rfl rfl h dL_isSeat_724 (fun h => ?_)
          refine V_iconst (pc := 725) C (v := 4) dL_isSeat_725 rfl ?_
          refine V_irem (pc := 726) C dL_isSeat_726 (by decide) ?_
          refine V_imul (pc := 727) C dL_isSeat_727 ?_
          refine V_iconst (pc := 728) C (v := 1) dL_isSeat_728 rfl ?_
          refine V_iadd (pc := 729) C dL_isSeat_729 ?_
          refine V_mld (pc := 730) C hT tb1_arr (n := 24) (c9 := 104) rfl rfl rfl h dL_isSeat_730 (fun h => ?_)
          refine V_icmp_lt (pc := 731) (tgt := 738) C dL_isSeat_731 (by decide) h (fun h => ?_) (fun h => ?_)
          · refine V_sub [1, 2, 3, 4, 5, 6, 7, 9, 18, 22] rfl ?_
            exact k_L_isSeat_738 hT hl C hr hnm htab  h
          · refine V_iconst (pc := 734) C (v := 1) dL_isSeat_734 rfl ?_
            refine V_goto (pc := 735) (tgt := 739) C dL_isSeat_735 (by decide) ?_
            refine V_sub [1, 2, 3, 4, 5, 6, 7, 9, 18, 22] rfl ?_
            exact k_L_isSeat_739 hT hl C hr hnm htab  h
  · refine V_iconst (pc := 589) C (v := (-1)) dL_isSeat_589 rfl ?_
    refine V_istore (pc := 590) C dL_isSeat_590 (by decide) rfl ?_
    refine V_iload (pc := 592) C dL_isSeat_592 1 rfl ?_
    refine V_if_eq (pc := 594) (tgt := 644) C dL_isSeat_594 (by decide) h (fun h => ?_) (fun h => ?_)
    · refine V_sub [2, 10, 23, 1, 0] rfl ?_
      exact k_L_isSeat_644 hT hl C hr hnm htab  h
    · refine V_aload (pc := 597) C dL_isSeat_597 8 rfl ?_
      refine V_iload (pc := 599) C dL_isSeat_599 23 rfl ?_
      refine V_dup2 (pc := 601) C dL_isSeat_601 rfl rfl ?_
      refine V_mld (pc := 602) C hT tb1_arr (n := 48) (c9 := 110) rfl rfl rfl h dL_isSeat_602 (fun h => ?_)
      refine V_sipush (pc := 603) C (v := 128) dL_isSeat_603 rfl ?_
      refine V_iadd (pc := 606) C dL_isSeat_606 ?_
      refine V_mst (pc := 607) C hT tb1_arr (n := 48) (c9 := 110) (by decide) rfl rfl rfl h dL_isSeat_607 (fun h => V_nx fun S52 e9 => ?_)
      replace h := h S52 e9; clear e9
      refine V_aload_n (pc := 608) C dL_isSeat_608 rfl 3 rfl ?_
      refine V_aload_n (pc := 609) C dL_isSeat_609 rfl 4 rfl ?_
      refine V_aload (pc := 610) C dL_isSeat_610 5 rfl ?_
      refine V_aload (pc := 612) C dL_isSeat_612 6 rfl ?_
      refine V_aload (pc := 614) C dL_isSeat_614 7 rfl ?_
      refine V_aload (pc := 616) C dL_isSeat_616 9 rfl ?_
      refine V_aload (pc := 618) C dL_isSeat_618 10 rfl ?_
      refine V_aload (pc := 620) C dL_isSeat_620 8 rfl ?_
      refine V_iload (pc := 622) C dL_isSeat_622 23 rfl ?_
      refine V_mld (pc := 624) C hT tb1_arr (n := 48) (c9 := 110) rfl rfl rfl h dL_isSeat_624 (fun h => ?_)
      refine V_bipush (pc := 625) C (v := 8) dL_isSeat_625 rfl ?_
      refine V_irem (pc := 627) C dL_isSeat_627 (by decide) ?_
      refine V_aload (pc := 628) C dL_isSeat_628 8 rfl ?_
      refine V_iload (pc := 630) C dL_isSeat_630 23 rfl ?_
      refine V_mld (pc := 632) C hT tb1_arr (n := 48) (c9 := 110) rfl rfl rfl h dL_isSeat_632 (fun h => ?_)
      refine V_bipush (pc := 633) C (v := 8) dL_isSeat_633 rfl ?_
      refine V_idiv (pc := 635) C dL_isSeat_635 (by decide) ?_
      refine V_bipush (pc := 636) C (v := 16) dL_isSeat_636 rfl ?_
      refine V_irem (pc := 638) C dL_isSeat_638 (by decide) ?_
      refine V_callS (pc := 639) C (ct_L_frees hT hl h) g893 g894 g895 g32 ⟨by decide, by decide, pl_L_frees⟩ ⟨by decide, by decide⟩ (rest := []) rfl (le8 rfl) dL_isSeat_639 (fun v54 S53 h => ?_) (fun k9 S9 hk h => VX_out C htab hk (h.2 (by omega)))
      replace h := h.1 rfl
      refine V_st (st' := [Value.int v54]) rfl ?_
      refine V_istore (pc := 642) C dL_isSeat_642 (by decide) rfl ?_
      refine V_sub [2, 10, 23, 1, 0] rfl ?_
      exact k_L_isSeat_644 hT hl C hr hnm htab  h
def w_L_isSeat_580  (Q : Nat → Int32 → Sg → Prop) (x10 : Int32) (x11 : Int32) (x13 : Int32) (x14 : Int32) (x15 : Int32) (x16 : Int32) (x17 : Int32) (x18 : Int32) (x19 : Int32) (x20 : Int32) (x21 : Int32) (x22 : Int32) (x23 : Int32) (S : Sg) : Prop := w_L_isSeat_581  Q x10 x11 x13 x14 x15 x16 x17 x18 x19 x20 x21 x22 x23 0 S
theorem k_L_isSeat_580 (hT : xT X = tb1) (hl : l.stackTraces = false) (C : Cn X k0 p l R s m meth c cL_isSeat RL 33 14 321) (hr : meth.sig.returnType = (some .boolean)) (hnm : meth.name = yL_isSeat.name) (htab : (∀ x ∈ c.exceptionTable.toList, False))  {x10 : Int32} {x11 : Int32} {x13 : Int32} {x14 : Int32} {x15 : Int32} {x16 : Int32} {x17 : Int32} {x18 : Int32} {x19 : Int32} {x20 : Int32} {x21 : Int32} {x22 : Int32} {x23 : Int32} {S : Sg} (h : w_L_isSeat_580  Qa x10 x11 x13 x14 x15 x16 x17 x18 x19 x20 x21 x22 x23 S) : V X p l e R s m args below meth c 33 (QM X below args s S0 ad0 rvI Qa) S0 ad0 S 580 [(0, Value.ref (enc 0 0)), (2, Value.ref (enc 13 4)), (3, Value.ref (enc 13 6)), (4, Value.ref (enc 13 7)), (5, Value.ref (enc 13 8)), (6, Value.ref (enc 13 9)), (7, Value.ref (enc 13 10)), (8, Value.ref (enc 13 11)), (9, Value.ref (enc 13 12)), (10, Value.int x10), (11, Value.int x11), (13, Value.int x13), (14, Value.int x14), (15, Value.int x15), (16, Value.int x16), (17, Value.int x17), (18, Value.int x18), (19, Value.int x19), (20, Value.int x20), (21, Value.int x21), (22, Value.int x22), (23, Value.int x23)] [] := by
  refine V_iconst (pc := 580) C (v := 0) dL_isSeat_580 rfl ?_
  refine V_sub [0, 1, 2, 3, 4, 5, 6, 7, 8, 9, 10, 11, 12, 13, 14, 15, 16, 17, 18, 19, 20, 21] rfl ?_
  exact k_L_isSeat_581 hT hl C hr hnm htab  h
def w_L_isSeat_534  (Q : Nat → Int32 → Sg → Prop) (y0 : Int32) (y1 : Int32) (S : Sg) : Prop := ((y1 = y0 → Q 0 1 S) ∧ (¬ y1 = y0 → Q 0 0 S))
theorem k_L_isSeat_534 (hT : xT X = tb1) (hl : l.stackTraces = false) (C : Cn X k0 p l R s m meth c cL_isSeat RL 33 14 321) (hr : meth.sig.returnType = (some .boolean)) (hnm : meth.name = yL_isSeat.name) (htab : (∀ x ∈ c.exceptionTable.toList, False))  {y0 : Int32} {y1 : Int32} {S : Sg} (h : w_L_isSeat_534  Qa y0 y1 S) : V X p l e R s m args below meth c 33 (QM X below args s S0 ad0 rvI Qa) S0 ad0 S 534 [] [Value.int y0, Value.int y1] := by
  refine V_icmp_ne (pc := 534) (tgt := 541) C dL_isSeat_534 (by decide) h (fun h => ?_) (fun h => ?_)
  · refine V_iconst (pc := 541) C (v := 0) dL_isSeat_541 rfl ?_
    exact V_zret (pc := 542) C hr (by decide) rfl h dL_isSeat_542
  · refine V_iconst (pc := 537) C (v := 1) dL_isSeat_537 rfl ?_
    refine V_goto (pc := 538) (tgt := 542) C dL_isSeat_538 (by decide) ?_
    exact V_zret (pc := 542) C hr (by decide) rfl h dL_isSeat_542
def w_L_isSeat_482  (Q : Nat → Int32 → Sg → Prop) (x13 : Int32) (x17 : Int32) (x18 : Int32) (x20 : Int32) (x23 : Int32) (x24 : Int32) (x25 : Int32) (S : Sg) : Prop := (w_L_does 9 x13 x17 x18 x23 0 S (fun k58 v57 S56 => (k58 = 0 → ((x20 = 0 → w_L_isSeat_534  Q (-3000000) v57 S56) ∧ (¬ x20 = 0 → ((x24 = 0 → w_L_isSeat_534  Q (-2000000) v57 S56) ∧ (¬ x24 = 0 → ((x25 = 0 → w_L_isSeat_534  Q (-1000000) v57 S56) ∧ (¬ x25 = 0 → (vp_in 6 8 ∧ w_L_isSeat_534  Q ((S56.1 112 (nt 6)) - 1) v57 S56)))))))) ∧ (¬ k58 = 0 → Q k58 0 S56)))
theorem k_L_isSeat_482 (hT : xT X = tb1) (hl : l.stackTraces = false) (C : Cn X k0 p l R s m meth c cL_isSeat RL 33 14 321) (hr : meth.sig.returnType = (some .boolean)) (hnm : meth.name = yL_isSeat.name) (htab : (∀ x ∈ c.exceptionTable.toList, False))  {x13 : Int32} {x17 : Int32} {x18 : Int32} {x20 : Int32} {x23 : Int32} {x24 : Int32} {x25 : Int32} {S : Sg} (h : w_L_isSeat_482  Qa x13 x17 x18 x20 x23 x24 x25 S) : V X p l e R s m args below meth c 33 (QM X below args s S0 ad0 rvI Qa) S0 ad0 S 482 [(0, Value.ref (enc 0 0)), (9, Value.ref (enc 13 12)), (13, Value.int x13), (17, Value.int x17), (18, Value.int x18), (20, Value.int x20), (23, Value.int x23), (24, Value.int x24), (25, Value.int x25)] [] := by
  refine V_aload_n (pc := 482) C dL_isSeat_482 rfl 0 rfl ?_
  refine V_bipush (pc := 483) C (v := 9) dL_isSeat_483 rfl ?_
  refine V_iload (pc := 485) C dL_isSeat_485 2 rfl ?_
  refine V_iload (pc := 487) C dL_isSeat_487 3 rfl ?_
  refine V_iload (pc := 489) C dL_isSeat_489 4 rfl ?_
  refine V_iload (pc := 491) C dL_isSeat_491 6 rfl ?_
  refine V_iconst (pc := 493) C (v := 0) dL_isSeat_493 rfl ?_
  refine V_callH (pc := 494) C (ct_L_does hT hl h) g119 g120 g121 g32 ⟨by decide, by decide, pl_L_does⟩ ⟨by decide, by decide⟩ (rest := []) rfl (le8 rfl) dL_isSeat_494 (fun v57 S56 h => ?_) (fun k9 S9 hk h => VX_out C htab hk (h.2 (by omega)))
  replace h := h.1 rfl
  refine V_st (st' := [Value.int v57]) rfl ?_
  refine V_iload (pc := 497) C dL_isSeat_497 5 rfl ?_
  refine V_if_ne (pc := 499) (tgt := 507) C dL_isSeat_499 (by decide) h (fun h => ?_) (fun h => ?_)
  · refine V_iload (pc := 507) C dL_isSeat_507 7 rfl ?_
    refine V_if_ne (pc := 509) (tgt := 517) C dL_isSeat_509 (by decide) h (fun h => ?_) (fun h => ?_)
    · refine V_iload (pc := 517) C dL_isSeat_517 8 rfl ?_
      refine V_if_eq (pc := 519) (tgt := 532) C dL_isSeat_519 (by decide) h (fun h => ?_) (fun h => ?_)
      · refine V_ldc (pc := 532) C g781 dL_isSeat_532 ?_
        refine V_sub [] rfl ?_
        exact k_L_isSeat_534 hT hl C hr hnm htab  h
      · refine V_aload (pc := 522) C dL_isSeat_522 1 rfl ?_
        refine V_bipush (pc := 524) C (v := 6) dL_isSeat_524 rfl ?_
        refine V_mld (pc := 526) C hT tb1_arr (n := 8) (c9 := 112) rfl rfl rfl h dL_isSeat_526 (fun h => ?_)
        refine V_iconst (pc := 527) C (v := 1) dL_isSeat_527 rfl ?_
        refine V_isub (pc := 528) C dL_isSeat_528 ?_
        refine V_goto (pc := 529) (tgt := 534) C dL_isSeat_529 (by decide) ?_
        refine V_sub [] rfl ?_
        exact k_L_isSeat_534 hT hl C hr hnm htab  h
    · refine V_ldc (pc := 512) C g780 dL_isSeat_512 ?_
      refine V_goto (pc := 514) (tgt := 534) C dL_isSeat_514 (by decide) ?_
      refine V_sub [] rfl ?_
      exact k_L_isSeat_534 hT hl C hr hnm htab  h
  · refine V_ldc (pc := 502) C g779 dL_isSeat_502 ?_
    refine V_goto (pc := 504) (tgt := 534) C dL_isSeat_504 (by decide) ?_
    refine V_sub [] rfl ?_
    exact k_L_isSeat_534 hT hl C hr hnm htab  h
def w_L_isSeat_448  (Q : Nat → Int32 → Sg → Prop) (x13 : Int32) (x16 : Int32) (x17 : Int32) (x18 : Int32) (x20 : Int32) (x23 : Int32) (x24 : Int32) (x25 : Int32) (y0 : Int32) (y1 : Int32) (S : Sg) : Prop := (vp_in y1 48 ∧ (∀ S59, S59 = su S 110 (nt y1) y0 → (vp_in 6 8 ∧ (vp_in (((12 * x13) + (x16 * x17)) + x18) 60 ∧ (∀ S60, S60 = su S59 107 (nt (((12 * x13) + (x16 * x17)) + x18)) ((-1) - (S59.1 112 (nt 6))) → (vp_in 6 8 ∧ (vp_in 6 8 ∧ (∀ S61, S61 = su S60 112 (nt 6) ((S60.1 112 (nt 6)) + 1) → w_L_isSeat_482  Q x13 x17 x18 x20 x23 x24 x25 S61))))))))
theorem k_L_isSeat_448 (hT : xT X = tb1) (hl : l.stackTraces = false) (C : Cn X k0 p l R s m meth c cL_isSeat RL 33 14 321) (hr : meth.sig.returnType = (some .boolean)) (hnm : meth.name = yL_isSeat.name) (htab : (∀ x ∈ c.exceptionTable.toList, False))  {x13 : Int32} {x16 : Int32} {x17 : Int32} {x18 : Int32} {x20 : Int32} {x23 : Int32} {x24 : Int32} {x25 : Int32} {y0 : Int32} {y1 : Int32} {S : Sg} (h : w_L_isSeat_448  Qa x13 x16 x17 x18 x20 x23 x24 x25 y0 y1 S) : V X p l e R s m args below meth c 33 (QM X below args s S0 ad0 rvI Qa) S0 ad0 S 448 [(0, Value.ref (enc 0 0)), (4, Value.ref (enc 13 7)), (9, Value.ref (enc 13 12)), (13, Value.int x13), (16, Value.int x16), (17, Value.int x17), (18, Value.int x18), (20, Value.int x20), (23, Value.int x23), (24, Value.int x24), (25, Value.int x25)] [Value.int y0, Value.int y1, Value.ref (enc 13 10)] := by
  refine V_mst (pc := 448) C hT tb1_arr (n := 48) (c9 := 110) (by decide) rfl rfl rfl h dL_isSeat_448 (fun h => V_nx fun S59 e9 => ?_)
  replace h := h S59 e9; clear e9
  refine V_aload (pc := 449) C dL_isSeat_449 1 rfl ?_
  refine V_bipush (pc := 451) C (v := 12) dL_isSeat_451 rfl ?_
  refine V_iload (pc := 453) C dL_isSeat_453 3 rfl ?_
  refine V_imul (pc := 455) C dL_isSeat_455 ?_
  refine V_iload (pc := 456) C dL_isSeat_456 4 rfl ?_
  refine V_iload (pc := 458) C dL_isSeat_458 5 rfl ?_
  refine V_imul (pc := 460) C dL_isSeat_460 ?_
  refine V_iadd (pc := 461) C dL_isSeat_461 ?_
  refine V_iload (pc := 462) C dL_isSeat_462 6 rfl ?_
  refine V_iadd (pc := 464) C dL_isSeat_464 ?_
  refine V_iconst (pc := 465) C (v := (-1)) dL_isSeat_465 rfl ?_
  refine V_aload (pc := 466) C dL_isSeat_466 2 rfl ?_
  refine V_bipush (pc := 468) C (v := 6) dL_isSeat_468 rfl ?_
  refine V_mld (pc := 470) C hT tb1_arr (n := 8) (c9 := 112) rfl rfl rfl h dL_isSeat_470 (fun h => ?_)
  refine V_isub (pc := 471) C dL_isSeat_471 ?_
  refine V_mst (pc := 472) C hT tb1_arr (n := 60) (c9 := 107) (by decide) rfl rfl rfl h dL_isSeat_472 (fun h => V_nx fun S60 e9 => ?_)
  replace h := h S60 e9; clear e9
  refine V_aload (pc := 473) C dL_isSeat_473 2 rfl ?_
  refine V_bipush (pc := 475) C (v := 6) dL_isSeat_475 rfl ?_
  refine V_dup2 (pc := 477) C dL_isSeat_477 rfl rfl ?_
  refine V_mld (pc := 478) C hT tb1_arr (n := 8) (c9 := 112) rfl rfl rfl h dL_isSeat_478 (fun h => ?_)
  refine V_iconst (pc := 479) C (v := 1) dL_isSeat_479 rfl ?_
  refine V_iadd (pc := 480) C dL_isSeat_480 ?_
  refine V_mst (pc := 481) C hT tb1_arr (n := 8) (c9 := 112) (by decide) rfl rfl rfl h dL_isSeat_481 (fun h => V_nx fun S61 e9 => ?_)
  replace h := h S61 e9; clear e9
  refine V_sub [0, 2, 3, 5, 6, 7, 8, 9, 10] rfl ?_
  exact k_L_isSeat_482 hT hl C hr hnm htab  h
def w_L_isSeat_377  (Q : Nat → Int32 → Sg → Prop) (x13 : Int32) (x16 : Int32) (x17 : Int32) (x18 : Int32) (x20 : Int32) (x23 : Int32) (x24 : Int32) (y0 : Int32) (S : Sg) : Prop := ((y0 = 0 → w_L_isSeat_482  Q x13 x17 x18 x20 x23 x24 y0 S) ∧ (¬ y0 = 0 → (vp_in 6 8 ∧ (vp_in (S.1 112 (nt 6)) 48 ∧ (∀ S62, S62 = su S 110 (nt (S.1 112 (nt 6))) (x13 + (8 * ((x16 * x17) + x18))) → (vp_in 6 8 ∧ (vp_in 0 8 ∧ (vp_in (5 + x13) 11 ∧ (((S62.1 106 (nt (5 + x13))) ≤ ((S62.1 112 (nt 0)) + x23) → (vp_in (5 + x13) 11 ∧ w_L_isSeat_448  Q x13 x16 x17 x18 x20 x23 x24 y0 (S62.1 106 (nt (5 + x13))) (24 + (S62.1 112 (nt 6))) S62)) ∧ (¬ (S62.1 106 (nt (5 + x13))) ≤ ((S62.1 112 (nt 0)) + x23) → (vp_in 0 8 ∧ w_L_isSeat_448  Q x13 x16 x17 x18 x20 x23 x24 y0 ((S62.1 112 (nt 0)) + x23) (24 + (S62.1 112 (nt 6))) S62)))))))))))
theorem k_L_isSeat_377 (hT : xT X = tb1) (hl : l.stackTraces = false) (C : Cn X k0 p l R s m meth c cL_isSeat RL 33 14 321) (hr : meth.sig.returnType = (some .boolean)) (hnm : meth.name = yL_isSeat.name) (htab : (∀ x ∈ c.exceptionTable.toList, False))  {x13 : Int32} {x16 : Int32} {x17 : Int32} {x18 : Int32} {x20 : Int32} {x23 : Int32} {x24 : Int32} {y0 : Int32} {S : Sg} (h : w_L_isSeat_377  Qa x13 x16 x17 x18 x20 x23 x24 y0 S) : V X p l e R s m args below meth c 33 (QM X below args s S0 ad0 rvI Qa) S0 ad0 S 377 [(0, Value.ref (enc 0 0)), (3, Value.ref (enc 13 6)), (4, Value.ref (enc 13 7)), (7, Value.ref (enc 13 10)), (9, Value.ref (enc 13 12)), (13, Value.int x13), (16, Value.int x16), (17, Value.int x17), (18, Value.int x18), (20, Value.int x20), (23, Value.int x23), (24, Value.int x24)] [Value.int y0] := by
  refine V_istore (pc := 377) C dL_isSeat_377 (by decide) rfl ?_
  refine V_iload (pc := 379) C dL_isSeat_379 0 rfl ?_
  refine V_if_eq (pc := 381) (tgt := 482) C dL_isSeat_381 (by decide) h (fun h => ?_) (fun h => ?_)
  · refine V_sub [1, 5, 6, 8, 9, 10, 11, 12, 0] rfl ?_
    exact k_L_isSeat_482 hT hl C hr hnm htab  h
  · refine V_aload (pc := 384) C dL_isSeat_384 4 rfl ?_
    refine V_aload (pc := 386) C dL_isSeat_386 5 rfl ?_
    refine V_bipush (pc := 388) C (v := 6) dL_isSeat_388 rfl ?_
    refine V_mld (pc := 390) C hT tb1_arr (n := 8) (c9 := 112) rfl rfl rfl h dL_isSeat_390 (fun h => ?_)
    refine V_iload (pc := 391) C dL_isSeat_391 6 rfl ?_
    refine V_bipush (pc := 393) C (v := 8) dL_isSeat_393 rfl ?_
    refine V_iload (pc := 395) C dL_isSeat_395 7 rfl ?_
    refine V_iload (pc := 397) C dL_isSeat_397 8 rfl ?_
    refine V_imul (pc := 399) C dL_isSeat_399 ?_
    refine V_iload (pc := 400) C dL_isSeat_400 9 rfl ?_
    refine V_iadd (pc := 402) C dL_isSeat_402 ?_
    refine V_imul (pc := 403) C dL_isSeat_403 ?_
    refine V_iadd (pc := 404) C dL_isSeat_404 ?_
    refine V_mst (pc := 405) C hT tb1_arr (n := 48) (c9 := 110) (by decide) rfl rfl rfl h dL_isSeat_405 (fun h => V_nx fun S62 e9 => ?_)
    replace h := h S62 e9; clear e9
    refine V_aload (pc := 406) C dL_isSeat_406 4 rfl ?_
    refine V_bipush (pc := 408) C (v := 24) dL_isSeat_408 rfl ?_
    refine V_aload (pc := 410) C dL_isSeat_410 5 rfl ?_
    refine V_bipush (pc := 412) C (v := 6) dL_isSeat_412 rfl ?_
    refine V_mld (pc := 414) C hT tb1_arr (n := 8) (c9 := 112) rfl rfl rfl h dL_isSeat_414 (fun h => ?_)
    refine V_iadd (pc := 415) C dL_isSeat_415 ?_
    refine V_aload (pc := 416) C dL_isSeat_416 5 rfl ?_
    refine V_iconst (pc := 418) C (v := 0) dL_isSeat_418 rfl ?_
    refine V_mld (pc := 419) C hT tb1_arr (n := 8) (c9 := 112) rfl rfl rfl h dL_isSeat_419 (fun h => ?_)
    refine V_iload (pc := 420) C dL_isSeat_420 11 rfl ?_
    refine V_iadd (pc := 422) C dL_isSeat_422 ?_
    refine V_aload_n (pc := 423) C dL_isSeat_423 rfl 2 rfl ?_
    refine V_iconst (pc := 424) C (v := 5) dL_isSeat_424 rfl ?_
    refine V_iload (pc := 425) C dL_isSeat_425 6 rfl ?_
    refine V_iadd (pc := 427) C dL_isSeat_427 ?_
    refine V_mld (pc := 428) C hT tb1_arr (n := 11) (c9 := 106) rfl rfl rfl h dL_isSeat_428 (fun h => ?_)
    refine V_icmp_ge (pc := 429) (tgt := 442) C dL_isSeat_429 (by decide) h (fun h => ?_) (fun h => ?_)
    · refine V_aload_n (pc := 442) C dL_isSeat_442 rfl 2 rfl ?_
      refine V_iconst (pc := 443) C (v := 5) dL_isSeat_443 rfl ?_
      refine V_iload (pc := 444) C dL_isSeat_444 6 rfl ?_
      refine V_iadd (pc := 446) C dL_isSeat_446 ?_
      refine V_mld (pc := 447) C hT tb1_arr (n := 11) (c9 := 106) rfl rfl rfl h dL_isSeat_447 (fun h => ?_)
      refine V_sub [1, 3, 5, 6, 7, 8, 9, 10, 11, 12, 0] rfl ?_
      exact k_L_isSeat_448 hT hl C hr hnm htab  h
    · refine V_aload (pc := 432) C dL_isSeat_432 5 rfl ?_
      refine V_iconst (pc := 434) C (v := 0) dL_isSeat_434 rfl ?_
      refine V_mld (pc := 435) C hT tb1_arr (n := 8) (c9 := 112) rfl rfl rfl h dL_isSeat_435 (fun h => ?_)
      refine V_iload (pc := 436) C dL_isSeat_436 11 rfl ?_
      refine V_iadd (pc := 438) C dL_isSeat_438 ?_
      refine V_goto (pc := 439) (tgt := 448) C dL_isSeat_439 (by decide) ?_
      refine V_sub [1, 3, 5, 6, 7, 8, 9, 10, 11, 12, 0] rfl ?_
      exact k_L_isSeat_448 hT hl C hr hnm htab  h
def w_L_isSeat_376  (Q : Nat → Int32 → Sg → Prop) (x13 : Int32) (x16 : Int32) (x17 : Int32) (x18 : Int32) (x20 : Int32) (x23 : Int32) (x24 : Int32) (S : Sg) : Prop := w_L_isSeat_377  Q x13 x16 x17 x18 x20 x23 x24 0 S
theorem k_L_isSeat_376 (hT : xT X = tb1) (hl : l.stackTraces = false) (C : Cn X k0 p l R s m meth c cL_isSeat RL 33 14 321) (hr : meth.sig.returnType = (some .boolean)) (hnm : meth.name = yL_isSeat.name) (htab : (∀ x ∈ c.exceptionTable.toList, False))  {x13 : Int32} {x16 : Int32} {x17 : Int32} {x18 : Int32} {x20 : Int32} {x23 : Int32} {x24 : Int32} {S : Sg} (h : w_L_isSeat_376  Qa x13 x16 x17 x18 x20 x23 x24 S) : V X p l e R s m args below meth c 33 (QM X below args s S0 ad0 rvI Qa) S0 ad0 S 376 [(0, Value.ref (enc 0 0)), (3, Value.ref (enc 13 6)), (4, Value.ref (enc 13 7)), (7, Value.ref (enc 13 10)), (9, Value.ref (enc 13 12)), (13, Value.int x13), (16, Value.int x16), (17, Value.int x17), (18, Value.int x18), (20, Value.int x20), (23, Value.int x23), (24, Value.int x24)] [] := by
  refine V_iconst (pc := 376) C (v := 0) dL_isSeat_376 rfl ?_
  refine V_sub [0, 1, 2, 3, 4, 5, 6, 7, 8, 9, 10, 11] rfl ?_
  exact k_L_isSeat_377 hT hl C hr hnm htab  h
def w_L_isSeat_360  (Q : Nat → Int32 → Sg → Prop) (x13 : Int32) (x16 : Int32) (x17 : Int32) (x18 : Int32) (x20 : Int32) (x21 : Int32) (x23 : Int32) (y0 : Int32) (S : Sg) : Prop := ((x21 = 0 → w_L_isSeat_376  Q x13 x16 x17 x18 x20 x23 y0 S) ∧ (¬ x21 = 0 → ((y0 = 0 → w_L_isSeat_376  Q x13 x16 x17 x18 x20 x23 y0 S) ∧ (¬ y0 = 0 → w_L_isSeat_377  Q x13 x16 x17 x18 x20 x23 y0 1 S))))
theorem k_L_isSeat_360 (hT : xT X = tb1) (hl : l.stackTraces = false) (C : Cn X k0 p l R s m meth c cL_isSeat RL 33 14 321) (hr : meth.sig.returnType = (some .boolean)) (hnm : meth.name = yL_isSeat.name) (htab : (∀ x ∈ c.exceptionTable.toList, False))  {x13 : Int32} {x16 : Int32} {x17 : Int32} {x18 : Int32} {x20 : Int32} {x21 : Int32} {x23 : Int32} {y0 : Int32} {S : Sg} (h : w_L_isSeat_360  Qa x13 x16 x17 x18 x20 x21 x23 y0 S) : V X p l e R s m args below meth c 33 (QM X below args s S0 ad0 rvI Qa) S0 ad0 S 360 [(0, Value.ref (enc 0 0)), (3, Value.ref (enc 13 6)), (4, Value.ref (enc 13 7)), (7, Value.ref (enc 13 10)), (9, Value.ref (enc 13 12)), (13, Value.int x13), (16, Value.int x16), (17, Value.int x17), (18, Value.int x18), (20, Value.int x20), (21, Value.int x21), (23, Value.int x23)] [Value.int y0] := by
  refine V_istore (pc := 360) C dL_isSeat_360 (by decide) rfl ?_
  refine V_iload (pc := 362) C dL_isSeat_362 11 rfl ?_
  refine V_if_eq (pc := 364) (tgt := 376) C dL_isSeat_364 (by decide) h (fun h => ?_) (fun h => ?_)
  · refine V_sub [1, 2, 3, 4, 5, 6, 7, 8, 9, 10, 12, 0] rfl ?_
    exact k_L_isSeat_376 hT hl C hr hnm htab  h
  · refine V_iload (pc := 367) C dL_isSeat_367 0 rfl ?_
    refine V_if_eq (pc := 369) (tgt := 376) C dL_isSeat_369 (by decide) h (fun h => ?_) (fun h => ?_)
    · refine V_sub [1, 2, 3, 4, 5, 6, 7, 8, 9, 10, 12, 0] rfl ?_
      exact k_L_isSeat_376 hT hl C hr hnm htab  h
    · refine V_iconst (pc := 372) C (v := 1) dL_isSeat_372 rfl ?_
      refine V_goto (pc := 373) (tgt := 377) C dL_isSeat_373 (by decide) ?_
      refine V_sub [1, 2, 3, 4, 5, 6, 7, 8, 9, 10, 12, 0] rfl ?_
      exact k_L_isSeat_377 hT hl C hr hnm htab  h
def w_L_isSeat_359  (Q : Nat → Int32 → Sg → Prop) (x13 : Int32) (x16 : Int32) (x17 : Int32) (x18 : Int32) (x20 : Int32) (x21 : Int32) (x23 : Int32) (S : Sg) : Prop := w_L_isSeat_360  Q x13 x16 x17 x18 x20 x21 x23 0 S
theorem k_L_isSeat_359 (hT : xT X = tb1) (hl : l.stackTraces = false) (C : Cn X k0 p l R s m meth c cL_isSeat RL 33 14 321) (hr : meth.sig.returnType = (some .boolean)) (hnm : meth.name = yL_isSeat.name) (htab : (∀ x ∈ c.exceptionTable.toList, False))  {x13 : Int32} {x16 : Int32} {x17 : Int32} {x18 : Int32} {x20 : Int32} {x21 : Int32} {x23 : Int32} {S : Sg} (h : w_L_isSeat_359  Qa x13 x16 x17 x18 x20 x21 x23 S) : V X p l e R s m args below meth c 33 (QM X below args s S0 ad0 rvI Qa) S0 ad0 S 359 [(0, Value.ref (enc 0 0)), (3, Value.ref (enc 13 6)), (4, Value.ref (enc 13 7)), (7, Value.ref (enc 13 10)), (9, Value.ref (enc 13 12)), (13, Value.int x13), (16, Value.int x16), (17, Value.int x17), (18, Value.int x18), (20, Value.int x20), (21, Value.int x21), (23, Value.int x23)] [] := by
  refine V_iconst (pc := 359) C (v := 0) dL_isSeat_359 rfl ?_
  refine V_sub [0, 1, 2, 3, 4, 5, 6, 7, 8, 9, 10, 11] rfl ?_
  exact k_L_isSeat_360 hT hl C hr hnm htab  h
def w_L_isSeat_340  (Q : Nat → Int32 → Sg → Prop) (x13 : Int32) (x16 : Int32) (x17 : Int32) (x18 : Int32) (x20 : Int32) (x21 : Int32) (y0 : Int32) (S : Sg) : Prop := ((y0 ≤ 0 → w_L_isSeat_359  Q x13 x16 x17 x18 x20 x21 y0 S) ∧ (¬ y0 ≤ 0 → ((5001 ≤ y0 → w_L_isSeat_359  Q x13 x16 x17 x18 x20 x21 y0 S) ∧ (¬ 5001 ≤ y0 → w_L_isSeat_360  Q x13 x16 x17 x18 x20 x21 y0 1 S))))
theorem k_L_isSeat_340 (hT : xT X = tb1) (hl : l.stackTraces = false) (C : Cn X k0 p l R s m meth c cL_isSeat RL 33 14 321) (hr : meth.sig.returnType = (some .boolean)) (hnm : meth.name = yL_isSeat.name) (htab : (∀ x ∈ c.exceptionTable.toList, False))  {x13 : Int32} {x16 : Int32} {x17 : Int32} {x18 : Int32} {x20 : Int32} {x21 : Int32} {y0 : Int32} {S : Sg} (h : w_L_isSeat_340  Qa x13 x16 x17 x18 x20 x21 y0 S) : V X p l e R s m args below meth c 33 (QM X below args s S0 ad0 rvI Qa) S0 ad0 S 340 [(0, Value.ref (enc 0 0)), (3, Value.ref (enc 13 6)), (4, Value.ref (enc 13 7)), (7, Value.ref (enc 13 10)), (9, Value.ref (enc 13 12)), (13, Value.int x13), (16, Value.int x16), (17, Value.int x17), (18, Value.int x18), (20, Value.int x20), (21, Value.int x21)] [Value.int y0] := by
  refine V_istore (pc := 340) C dL_isSeat_340 (by decide) rfl ?_
  refine V_iload (pc := 342) C dL_isSeat_342 0 rfl ?_
  refine V_if_le (pc := 344) (tgt := 359) C dL_isSeat_344 (by decide) h (fun h => ?_) (fun h => ?_)
  · refine V_sub [1, 2, 3, 4, 5, 6, 7, 8, 9, 10, 11, 0] rfl ?_
    exact k_L_isSeat_359 hT hl C hr hnm htab  h
  · refine V_iload (pc := 347) C dL_isSeat_347 0 rfl ?_
    refine V_sipush (pc := 349) C (v := 5001) dL_isSeat_349 rfl ?_
    refine V_icmp_ge (pc := 352) (tgt := 359) C dL_isSeat_352 (by decide) h (fun h => ?_) (fun h => ?_)
    · refine V_sub [1, 2, 3, 4, 5, 6, 7, 8, 9, 10, 11, 0] rfl ?_
      exact k_L_isSeat_359 hT hl C hr hnm htab  h
    · refine V_iconst (pc := 355) C (v := 1) dL_isSeat_355 rfl ?_
      refine V_goto (pc := 356) (tgt := 360) C dL_isSeat_356 (by decide) ?_
      refine V_sub [1, 2, 3, 4, 5, 6, 7, 8, 9, 10, 11, 0] rfl ?_
      exact k_L_isSeat_360 hT hl C hr hnm htab  h
def w_L_isSeat_272  (Q : Nat → Int32 → Sg → Prop) (x10 : Int32) (x11 : Int32) (x12 : Int32) (x13 : Int32) (x14 : Int32) (x15 : Int32) (x16 : Int32) (x17 : Int32) (x18 : Int32) (x19 : Int32) (x20 : Int32) (x21 : Int32) (y0 : Int32) (S : Sg) : Prop := (vp_in 7 8 ∧ (((S.1 112 (nt 7)) ≤ 40 → ((x10 = 0 → (vp_in 6 8 ∧ (((S.1 112 (nt 6)) = 24 → Q 0 1 S) ∧ (¬ (S.1 112 (nt 6)) = 24 → ((((x12 / 36) - (x12 / 36) / 9 * 9) = 0 → w_L_isSeat_340  Q x13 x16 x17 x18 x20 x21 (((x12 / 324) - (x12 / 324) / 2 * 2) * 5001) S) ∧ (¬ ((x12 / 36) - (x12 / 36) / 9 * 9) = 0 → w_L_isSeat_340  Q x13 x16 x17 x18 x20 x21 (1 + ((x12 / 36) - (x12 / 36) / 300 * 300)) S)))))) ∧ (¬ x10 = 0 → (vp_in 6 8 ∧ (¬ ((S.1 112 (nt 6)) + 1) = 0 ∧ (∀ v63, v63 = x11 - x11 / ((S.1 112 (nt 6)) + 1) * ((S.1 112 (nt 6)) + 1) → (vp_in 6 8 ∧ (((S.1 112 (nt 6)) ≤ v63 → w_L_isSeat_580  Q x10 x11 x13 x14 x15 x16 x17 x18 x19 x20 x21 y0 v63 S) ∧ (¬ (S.1 112 (nt 6)) ≤ v63 → (vp_in v63 48 ∧ ((128 ≤ (S.1 110 (nt v63)) → w_L_isSeat_580  Q x10 x11 x13 x14 x15 x16 x17 x18 x19 x20 x21 y0 v63 S) ∧ (¬ 128 ≤ (S.1 110 (nt v63)) → w_L_isSeat_581  Q x10 x11 x13 x14 x15 x16 x17 x18 x19 x20 x21 y0 v63 1 S)))))))))))) ∧ (¬ (S.1 112 (nt 7)) ≤ 40 → Q 0 1 S)))
theorem k_L_isSeat_272 (hT : xT X = tb1) (hl : l.stackTraces = false) (C : Cn X k0 p l R s m meth c cL_isSeat RL 33 14 321) (hr : meth.sig.returnType = (some .boolean)) (hnm : meth.name = yL_isSeat.name) (htab : (∀ x ∈ c.exceptionTable.toList, False))  {x10 : Int32} {x11 : Int32} {x12 : Int32} {x13 : Int32} {x14 : Int32} {x15 : Int32} {x16 : Int32} {x17 : Int32} {x18 : Int32} {x19 : Int32} {x20 : Int32} {x21 : Int32} {y0 : Int32} {S : Sg} (h : w_L_isSeat_272  Qa x10 x11 x12 x13 x14 x15 x16 x17 x18 x19 x20 x21 y0 S) : V X p l e R s m args below meth c 33 (QM X below args s S0 ad0 rvI Qa) S0 ad0 S 272 [(0, Value.ref (enc 0 0)), (2, Value.ref (enc 13 4)), (3, Value.ref (enc 13 6)), (4, Value.ref (enc 13 7)), (5, Value.ref (enc 13 8)), (6, Value.ref (enc 13 9)), (7, Value.ref (enc 13 10)), (8, Value.ref (enc 13 11)), (9, Value.ref (enc 13 12)), (10, Value.int x10), (11, Value.int x11), (12, Value.int x12), (13, Value.int x13), (14, Value.int x14), (15, Value.int x15), (16, Value.int x16), (17, Value.int x17), (18, Value.int x18), (19, Value.int x19), (20, Value.int x20), (21, Value.int x21)] [Value.int y0] := by
  refine V_istore (pc := 272) C dL_isSeat_272 (by decide) rfl ?_
  refine V_aload (pc := 274) C dL_isSeat_274 9 rfl ?_
  refine V_bipush (pc := 276) C (v := 7) dL_isSeat_276 rfl ?_
  refine V_mld (pc := 278) C hT tb1_arr (n := 8) (c9 := 112) rfl rfl rfl h dL_isSeat_278 (fun h => ?_)
  refine V_bipush (pc := 279) C (v := 40) dL_isSeat_279 rfl ?_
  refine V_icmp_le (pc := 281) (tgt := 286) C dL_isSeat_281 (by decide) h (fun h => ?_) (fun h => ?_)
  · refine V_iload (pc := 286) C dL_isSeat_286 10 rfl ?_
    refine V_if_ne (pc := 288) (tgt := 543) C dL_isSeat_288 (by decide) h (fun h => ?_) (fun h => ?_)
    · refine V_iload (pc := 543) C dL_isSeat_543 11 rfl ?_
      refine V_aload (pc := 545) C dL_isSeat_545 9 rfl ?_
      refine V_bipush (pc := 547) C (v := 6) dL_isSeat_547 rfl ?_
      refine V_mld (pc := 549) C hT tb1_arr (n := 8) (c9 := 112) rfl rfl rfl h dL_isSeat_549 (fun h => ?_)
      refine V_iconst (pc := 550) C (v := 1) dL_isSeat_550 rfl ?_
      refine V_iadd (pc := 551) C dL_isSeat_551 ?_
      refine V_irem (pc := 552) C dL_isSeat_552 h.1 ?_
      replace h := h.2
      refine V_nI fun v63 e9 => ?_
      replace h := h v63 e9; clear e9
      refine V_istore (pc := 553) C dL_isSeat_553 (by decide) rfl ?_
      refine V_iload (pc := 555) C dL_isSeat_555 0 rfl ?_
      refine V_aload (pc := 557) C dL_isSeat_557 10 rfl ?_
      refine V_bipush (pc := 559) C (v := 6) dL_isSeat_559 rfl ?_
      refine V_mld (pc := 561) C hT tb1_arr (n := 8) (c9 := 112) rfl rfl rfl h dL_isSeat_561 (fun h => ?_)
      refine V_icmp_ge (pc := 562) (tgt := 580) C dL_isSeat_562 (by decide) h (fun h => ?_) (fun h => ?_)
      · refine V_sub [2, 3, 4, 5, 6, 7, 8, 9, 10, 11, 12, 14, 15, 16, 17, 18, 19, 20, 21, 22, 1, 0] rfl ?_
        exact k_L_isSeat_580 hT hl C hr hnm htab  h
      · refine V_aload (pc := 565) C dL_isSeat_565 8 rfl ?_
        refine V_iload (pc := 567) C dL_isSeat_567 0 rfl ?_
        refine V_mld (pc := 569) C hT tb1_arr (n := 48) (c9 := 110) rfl rfl rfl h dL_isSeat_569 (fun h => ?_)
        refine V_sipush (pc := 570) C (v := 128) dL_isSeat_570 rfl ?_
        refine V_icmp_ge (pc := 573) (tgt := 580) C dL_isSeat_573 (by decide) h (fun h => ?_) (fun h => ?_)
        · refine V_sub [2, 3, 4, 5, 6, 7, 8, 9, 10, 11, 12, 14, 15, 16, 17, 18, 19, 20, 21, 22, 1, 0] rfl ?_
          exact k_L_isSeat_580 hT hl C hr hnm htab  h
        · refine V_iconst (pc := 576) C (v := 1) dL_isSeat_576 rfl ?_
          refine V_goto (pc := 577) (tgt := 581) C dL_isSeat_577 (by decide) ?_
          refine V_sub [2, 3, 4, 5, 6, 7, 8, 9, 10, 11, 12, 14, 15, 16, 17, 18, 19, 20, 21, 22, 1, 0] rfl ?_
          exact k_L_isSeat_581 hT hl C hr hnm htab  h
    · refine V_aload (pc := 291) C dL_isSeat_291 9 rfl ?_
      refine V_bipush (pc := 293) C (v := 6) dL_isSeat_293 rfl ?_
      refine V_mld (pc := 295) C hT tb1_arr (n := 8) (c9 := 112) rfl rfl rfl h dL_isSeat_295 (fun h => ?_)
      refine V_bipush (pc := 296) C (v := 24) dL_isSeat_296 rfl ?_
      refine V_icmp_ne (pc := 298) (tgt := 303) C dL_isSeat_298 (by decide) h (fun h => ?_) (fun h => ?_)
      · refine V_iload (pc := 303) C dL_isSeat_303 12 rfl ?_
        refine V_bipush (pc := 305) C (v := 36) dL_isSeat_305 rfl ?_
        refine V_idiv (pc := 307) C dL_isSeat_307 (by decide) ?_
        refine V_bipush (pc := 308) C (v := 9) dL_isSeat_308 rfl ?_
        refine V_irem (pc := 310) C dL_isSeat_310 (by decide) ?_
        refine V_if_ne (pc := 311) (tgt := 329) C dL_isSeat_311 (by decide) h (fun h => ?_) (fun h => ?_)
        · refine V_iconst (pc := 329) C (v := 1) dL_isSeat_329 rfl ?_
          refine V_iload (pc := 330) C dL_isSeat_330 12 rfl ?_
          refine V_bipush (pc := 332) C (v := 36) dL_isSeat_332 rfl ?_
          refine V_idiv (pc := 334) C dL_isSeat_334 (by decide) ?_
          refine V_sipush (pc := 335) C (v := 300) dL_isSeat_335 rfl ?_
          refine V_irem (pc := 338) C dL_isSeat_338 (by decide) ?_
          refine V_iadd (pc := 339) C dL_isSeat_339 ?_
          refine V_sub [1, 3, 4, 7, 9, 13, 16, 17, 18, 20, 21] rfl ?_
          exact k_L_isSeat_340 hT hl C hr hnm htab  h
        · refine V_iload (pc := 314) C dL_isSeat_314 12 rfl ?_
          refine V_sipush (pc := 316) C (v := 324) dL_isSeat_316 rfl ?_
          refine V_idiv (pc := 319) C dL_isSeat_319 (by decide) ?_
          refine V_iconst (pc := 320) C (v := 2) dL_isSeat_320 rfl ?_
          refine V_irem (pc := 321) C dL_isSeat_321 (by decide) ?_
          refine V_sipush (pc := 322) C (v := 5001) dL_isSeat_322 rfl ?_
          refine V_imul (pc := 325) C dL_isSeat_325 ?_
          refine V_goto (pc := 326) (tgt := 340) C dL_isSeat_326 (by decide) ?_
          refine V_sub [1, 3, 4, 7, 9, 13, 16, 17, 18, 20, 21] rfl ?_
          exact k_L_isSeat_340 hT hl C hr hnm htab  h
      · refine V_iconst (pc := 301) C (v := 1) dL_isSeat_301 rfl ?_
        exact V_zret (pc := 302) C hr (by decide) rfl h dL_isSeat_302
  · refine V_iconst (pc := 284) C (v := 1) dL_isSeat_284 rfl ?_
    exact V_zret (pc := 285) C hr (by decide) rfl h dL_isSeat_285
def w_L_isSeat_271  (Q : Nat → Int32 → Sg → Prop) (x10 : Int32) (x11 : Int32) (x12 : Int32) (x13 : Int32) (x14 : Int32) (x15 : Int32) (x16 : Int32) (x17 : Int32) (x18 : Int32) (x19 : Int32) (x20 : Int32) (x21 : Int32) (S : Sg) : Prop := w_L_isSeat_272  Q x10 x11 x12 x13 x14 x15 x16 x17 x18 x19 x20 x21 0 S
theorem k_L_isSeat_271 (hT : xT X = tb1) (hl : l.stackTraces = false) (C : Cn X k0 p l R s m meth c cL_isSeat RL 33 14 321) (hr : meth.sig.returnType = (some .boolean)) (hnm : meth.name = yL_isSeat.name) (htab : (∀ x ∈ c.exceptionTable.toList, False))  {x10 : Int32} {x11 : Int32} {x12 : Int32} {x13 : Int32} {x14 : Int32} {x15 : Int32} {x16 : Int32} {x17 : Int32} {x18 : Int32} {x19 : Int32} {x20 : Int32} {x21 : Int32} {S : Sg} (h : w_L_isSeat_271  Qa x10 x11 x12 x13 x14 x15 x16 x17 x18 x19 x20 x21 S) : V X p l e R s m args below meth c 33 (QM X below args s S0 ad0 rvI Qa) S0 ad0 S 271 [(0, Value.ref (enc 0 0)), (2, Value.ref (enc 13 4)), (3, Value.ref (enc 13 6)), (4, Value.ref (enc 13 7)), (5, Value.ref (enc 13 8)), (6, Value.ref (enc 13 9)), (7, Value.ref (enc 13 10)), (8, Value.ref (enc 13 11)), (9, Value.ref (enc 13 12)), (10, Value.int x10), (11, Value.int x11), (12, Value.int x12), (13, Value.int x13), (14, Value.int x14), (15, Value.int x15), (16, Value.int x16), (17, Value.int x17), (18, Value.int x18), (19, Value.int x19), (20, Value.int x20), (21, Value.int x21)] [] := by
  refine V_iconst (pc := 271) C (v := 0) dL_isSeat_271 rfl ?_
  refine V_sub [0, 1, 2, 3, 4, 5, 6, 7, 8, 9, 10, 11, 12, 13, 14, 15, 16, 17, 18, 19, 20] rfl ?_
  exact k_L_isSeat_272 hT hl C hr hnm htab  h
def w_L_isSeat_242  (Q : Nat → Int32 → Sg → Prop) (x10 : Int32) (x11 : Int32) (x12 : Int32) (x13 : Int32) (x14 : Int32) (x15 : Int32) (x16 : Int32) (x17 : Int32) (x18 : Int32) (x19 : Int32) (x20 : Int32) (y0 : Int32) (S : Sg) : Prop := ((x14 = 0 → w_L_isSeat_271  Q x10 x11 x12 x13 x14 x15 x16 x17 x18 x19 x20 y0 S) ∧ (¬ x14 = 0 → (vp_in x13 11 ∧ (vp_in ((8 * ((S.1 106 (nt x13)) - (S.1 106 (nt x13)) / 4 * 4)) + 1) 24 ∧ ((x19 < (S.1 104 (nt ((8 * ((S.1 106 (nt x13)) - (S.1 106 (nt x13)) / 4 * 4)) + 1))) → w_L_isSeat_271  Q x10 x11 x12 x13 x14 x15 x16 x17 x18 x19 x20 y0 S) ∧ (¬ x19 < (S.1 104 (nt ((8 * ((S.1 106 (nt x13)) - (S.1 106 (nt x13)) / 4 * 4)) + 1))) → w_L_isSeat_272  Q x10 x11 x12 x13 x14 x15 x16 x17 x18 x19 x20 y0 1 S))))))
theorem k_L_isSeat_242 (hT : xT X = tb1) (hl : l.stackTraces = false) (C : Cn X k0 p l R s m meth c cL_isSeat RL 33 14 321) (hr : meth.sig.returnType = (some .boolean)) (hnm : meth.name = yL_isSeat.name) (htab : (∀ x ∈ c.exceptionTable.toList, False))  {x10 : Int32} {x11 : Int32} {x12 : Int32} {x13 : Int32} {x14 : Int32} {x15 : Int32} {x16 : Int32} {x17 : Int32} {x18 : Int32} {x19 : Int32} {x20 : Int32} {y0 : Int32} {S : Sg} (h : w_L_isSeat_242  Qa x10 x11 x12 x13 x14 x15 x16 x17 x18 x19 x20 y0 S) : V X p l e R s m args below meth c 33 (QM X below args s S0 ad0 rvI Qa) S0 ad0 S 242 [(0, Value.ref (enc 0 0)), (2, Value.ref (enc 13 4)), (3, Value.ref (enc 13 6)), (4, Value.ref (enc 13 7)), (5, Value.ref (enc 13 8)), (6, Value.ref (enc 13 9)), (7, Value.ref (enc 13 10)), (8, Value.ref (enc 13 11)), (9, Value.ref (enc 13 12)), (10, Value.int x10), (11, Value.int x11), (12, Value.int x12), (13, Value.int x13), (14, Value.int x14), (15, Value.int x15), (16, Value.int x16), (17, Value.int x17), (18, Value.int x18), (19, Value.int x19), (20, Value.int x20)] [Value.int y0] := by
  refine V_istore (pc := 242) C dL_isSeat_242 (by decide) rfl ?_
  refine V_iload (pc := 244) C dL_isSeat_244 14 rfl ?_
  refine V_if_eq (pc := 246) (tgt := 271) C dL_isSeat_246 (by decide) h (fun h => ?_) (fun h => ?_)
  · refine V_sub [1, 2, 3, 4, 5, 6, 7, 8, 9, 10, 11, 12, 13, 14, 15, 16, 17, 18, 19, 20, 0] rfl ?_
    exact k_L_isSeat_271 hT hl C hr hnm htab  h
  · refine V_iload (pc := 249) C dL_isSeat_249 19 rfl ?_
    refine V_aload_n (pc := 251) C dL_isSeat_251 rfl 2 rfl ?_
    refine V_bipush (pc := 252) C (v := 8) dL_isSeat_252 rfl ?_
    refine V_aload_n (pc := 254) C dL_isSeat_254 rfl 3 rfl ?_
    refine V_iload (pc := 255) C dL_isSeat_255 13 rfl ?_
    refine V_mld (pc := 257) C hT tb1_arr (n := 11) (c9 := 106) rfl rfl rfl h dL_isSeat_257 (fun h => ?_)
    refine V_iconst (pc := 258) C (v := 4) dL_isSeat_258 rfl ?_
    refine V_irem (pc := 259) C dL_isSeat_259 (by decide) ?_
    refine V_imul (pc := 260) C dL_isSeat_260 ?_
    refine V_iconst (pc := 261) C (v := 1) dL_isSeat_261 rfl ?_
    refine V_iadd (pc := 262) C dL_isSeat_262 ?_
    refine V_mld (pc := 263) C hT tb1_arr (n := 24) (c9 := 104) rfl rfl rfl h dL_isSeat_263 (fun h => ?_)
    refine V_icmp_lt (pc := 264) (tgt := 271) C dL_isSeat_264 (by decide) h (fun h => ?_) (fun h => ?_)
    · refine V_sub [1, 2, 3, 4, 5, 6, 7, 8, 9, 10, 11, 12, 13, 14, 15, 16, 17, 18, 19, 20, 0] rfl ?_
      exact k_L_isSeat_271 hT hl C hr hnm htab  h
    · refine V_iconst (pc := 267) C (v := 1) dL_isSeat_267 rfl ?_
      refine V_goto (pc := 268) (tgt := 272) C dL_isSeat_268 (by decide) ?_
      refine V_sub [1, 2, 3, 4, 5, 6, 7, 8, 9, 10, 11, 12, 13, 14, 15, 16, 17, 18, 19, 20, 0] rfl ?_
      exact k_L_isSeat_272 hT hl C hr hnm htab  h
def w_L_isSeat_241  (Q : Nat → Int32 → Sg → Prop) (x10 : Int32) (x11 : Int32) (x12 : Int32) (x13 : Int32) (x14 : Int32) (x15 : Int32) (x16 : Int32) (x17 : Int32) (x18 : Int32) (x19 : Int32) (x20 : Int32) (S : Sg) : Prop := w_L_isSeat_242  Q x10 x11 x12 x13 x14 x15 x16 x17 x18 x19 x20 0 S
theorem k_L_isSeat_241 (hT : xT X = tb1) (hl : l.stackTraces = false) (C : Cn X k0 p l R s m meth c cL_isSeat RL 33 14 321) (hr : meth.sig.returnType = (some .boolean)) (hnm : meth.name = yL_isSeat.name) (htab : (∀ x ∈ c.exceptionTable.toList, False))  {x10 : Int32} {x11 : Int32} {x12 : Int32} {x13 : Int32} {x14 : Int32} {x15 : Int32} {x16 : Int32} {x17 : Int32} {x18 : Int32} {x19 : Int32} {x20 : Int32} {S : Sg} (h : w_L_isSeat_241  Qa x10 x11 x12 x13 x14 x15 x16 x17 x18 x19 x20 S) : V X p l e R s m args below meth c 33 (QM X below args s S0 ad0 rvI Qa) S0 ad0 S 241 [(0, Value.ref (enc 0 0)), (2, Value.ref (enc 13 4)), (3, Value.ref (enc 13 6)), (4, Value.ref (enc 13 7)), (5, Value.ref (enc 13 8)), (6, Value.ref (enc 13 9)), (7, Value.ref (enc 13 10)), (8, Value.ref (enc 13 11)), (9, Value.ref (enc 13 12)), (10, Value.int x10), (11, Value.int x11), (12, Value.int x12), (13, Value.int x13), (14, Value.int x14), (15, Value.int x15), (16, Value.int x16), (17, Value.int x17), (18, Value.int x18), (19, Value.int x19), (20, Value.int x20)] [] := by
  refine V_iconst (pc := 241) C (v := 0) dL_isSeat_241 rfl ?_
  refine V_sub [0, 1, 2, 3, 4, 5, 6, 7, 8, 9, 10, 11, 12, 13, 14, 15, 16, 17, 18, 19] rfl ?_
  exact k_L_isSeat_242 hT hl C hr hnm htab  h
def w_L_isSeat_201  (Q : Nat → Int32 → Sg → Prop) (x10 : Int32) (x11 : Int32) (x12 : Int32) (x13 : Int32) (x14 : Int32) (x15 : Int32) (x16 : Int32) (x17 : Int32) (x18 : Int32) (x19 : Int32) (y0 : Int32) (S : Sg) : Prop := ((y0 = 0 → w_L_isSeat_241  Q x10 x11 x12 x13 x14 x15 x16 x17 x18 x19 y0 S) ∧ (¬ y0 = 0 → (w_L_state x13 S (fun k66 v65 S64 => (k66 = 0 → ((v65 = 0 → (vp_in (((12 * x13) + (x16 * x17)) + x18) 60 ∧ (((S64.1 107 (nt (((12 * x13) + (x16 * x17)) + x18))) = 0 → w_L_isSeat_242  Q x10 x11 x12 x13 x14 x15 x16 x17 x18 x19 y0 1 S64) ∧ (¬ (S64.1 107 (nt (((12 * x13) + (x16 * x17)) + x18))) = 0 → w_L_isSeat_241  Q x10 x11 x12 x13 x14 x15 x16 x17 x18 x19 y0 S64)))) ∧ (¬ v65 = 0 → w_L_isSeat_241  Q x10 x11 x12 x13 x14 x15 x16 x17 x18 x19 y0 S64))) ∧ (¬ k66 = 0 → Q k66 0 S64)))))
theorem k_L_isSeat_201 (hT : xT X = tb1) (hl : l.stackTraces = false) (C : Cn X k0 p l R s m meth c cL_isSeat RL 33 14 321) (hr : meth.sig.returnType = (some .boolean)) (hnm : meth.name = yL_isSeat.name) (htab : (∀ x ∈ c.exceptionTable.toList, False))  {x10 : Int32} {x11 : Int32} {x12 : Int32} {x13 : Int32} {x14 : Int32} {x15 : Int32} {x16 : Int32} {x17 : Int32} {x18 : Int32} {x19 : Int32} {y0 : Int32} {S : Sg} (h : w_L_isSeat_201  Qa x10 x11 x12 x13 x14 x15 x16 x17 x18 x19 y0 S) : V X p l e R s m args below meth c 33 (QM X below args s S0 ad0 rvI Qa) S0 ad0 S 201 [(0, Value.ref (enc 0 0)), (2, Value.ref (enc 13 4)), (3, Value.ref (enc 13 6)), (4, Value.ref (enc 13 7)), (5, Value.ref (enc 13 8)), (6, Value.ref (enc 13 9)), (7, Value.ref (enc 13 10)), (8, Value.ref (enc 13 11)), (9, Value.ref (enc 13 12)), (10, Value.int x10), (11, Value.int x11), (12, Value.int x12), (13, Value.int x13), (14, Value.int x14), (15, Value.int x15), (16, Value.int x16), (17, Value.int x17), (18, Value.int x18), (19, Value.int x19)] [Value.int y0] := by
  refine V_istore (pc := 201) C dL_isSeat_201 (by decide) rfl ?_
  refine V_iload (pc := 203) C dL_isSeat_203 0 rfl ?_
  refine V_if_eq (pc := 205) (tgt := 241) C dL_isSeat_205 (by decide) h (fun h => ?_) (fun h => ?_)
  · refine V_sub [1, 2, 3, 4, 5, 6, 7, 8, 9, 10, 11, 12, 13, 14, 15, 16, 17, 18, 19, 0] rfl ?_
    exact k_L_isSeat_241 hT hl C hr hnm htab  h
  · refine V_aload_n (pc := 208) C dL_isSeat_208 rfl 3 rfl ?_
    refine V_iload (pc := 209) C dL_isSeat_209 13 rfl ?_
    refine V_callS (pc := 211) C (ct_L_state hT hl h) g794 g795 g796 g32 ⟨by decide, by decide, pl_L_state⟩ ⟨by decide, by decide⟩ (rest := []) rfl (le8 rfl) dL_isSeat_211 (fun v65 S64 h => ?_) (fun k9 S9 hk h => VX_out C htab hk (h.2 (by omega)))
    replace h := h.1 rfl
    refine V_st (st' := [Value.int v65]) rfl ?_
    refine V_if_ne (pc := 214) (tgt := 241) C dL_isSeat_214 (by decide) h (fun h => ?_) (fun h => ?_)
    · refine V_sub [1, 2, 3, 4, 5, 6, 7, 8, 9, 10, 11, 12, 13, 14, 15, 16, 17, 18, 19, 0] rfl ?_
      exact k_L_isSeat_241 hT hl C hr hnm htab  h
    · refine V_aload (pc := 217) C dL_isSeat_217 4 rfl ?_
      refine V_bipush (pc := 219) C (v := 12) dL_isSeat_219 rfl ?_
      refine V_iload (pc := 221) C dL_isSeat_221 13 rfl ?_
      refine V_imul (pc := 223) C dL_isSeat_223 ?_
      refine V_iload (pc := 224) C dL_isSeat_224 16 rfl ?_
      refine V_iload (pc := 226) C dL_isSeat_226 17 rfl ?_
      refine V_imul (pc := 228) C dL_isSeat_228 ?_
      refine V_iadd (pc := 229) C dL_isSeat_229 ?_
      refine V_iload (pc := 230) C dL_isSeat_230 18 rfl ?_
      refine V_iadd (pc := 232) C dL_isSeat_232 ?_
      refine V_mld (pc := 233) C hT tb1_arr (n := 60) (c9 := 107) rfl rfl rfl h dL_isSeat_233 (fun h => ?_)
      refine V_if_ne (pc := 234) (tgt := 241) C dL_isSeat_234 (by decide) h (fun h => ?_) (fun h => ?_)
      · refine V_sub [1, 2, 3, 4, 5, 6, 7, 8, 9, 10, 11, 12, 13, 14, 15, 16, 17, 18, 19, 0] rfl ?_
        exact k_L_isSeat_241 hT hl C hr hnm htab  h
      · refine V_iconst (pc := 237) C (v := 1) dL_isSeat_237 rfl ?_
        refine V_goto (pc := 238) (tgt := 242) C dL_isSeat_238 (by decide) ?_
        refine V_sub [1, 2, 3, 4, 5, 6, 7, 8, 9, 10, 11, 12, 13, 14, 15, 16, 17, 18, 19, 0] rfl ?_
        exact k_L_isSeat_242 hT hl C hr hnm htab  h
def w_L_isSeat_200  (Q : Nat → Int32 → Sg → Prop) (x10 : Int32) (x11 : Int32) (x12 : Int32) (x13 : Int32) (x14 : Int32) (x15 : Int32) (x16 : Int32) (x17 : Int32) (x18 : Int32) (x19 : Int32) (S : Sg) : Prop := w_L_isSeat_201  Q x10 x11 x12 x13 x14 x15 x16 x17 x18 x19 0 S
theorem k_L_isSeat_200 (hT : xT X = tb1) (hl : l.stackTraces = false) (C : Cn X k0 p l R s m meth c cL_isSeat RL 33 14 321) (hr : meth.sig.returnType = (some .boolean)) (hnm : meth.name = yL_isSeat.name) (htab : (∀ x ∈ c.exceptionTable.toList, False))  {x10 : Int32} {x11 : Int32} {x12 : Int32} {x13 : Int32} {x14 : Int32} {x15 : Int32} {x16 : Int32} {x17 : Int32} {x18 : Int32} {x19 : Int32} {S : Sg} (h : w_L_isSeat_200  Qa x10 x11 x12 x13 x14 x15 x16 x17 x18 x19 S) : V X p l e R s m args below meth c 33 (QM X below args s S0 ad0 rvI Qa) S0 ad0 S 200 [(0, Value.ref (enc 0 0)), (2, Value.ref (enc 13 4)), (3, Value.ref (enc 13 6)), (4, Value.ref (enc 13 7)), (5, Value.ref (enc 13 8)), (6, Value.ref (enc 13 9)), (7, Value.ref (enc 13 10)), (8, Value.ref (enc 13 11)), (9, Value.ref (enc 13 12)), (10, Value.int x10), (11, Value.int x11), (12, Value.int x12), (13, Value.int x13), (14, Value.int x14), (15, Value.int x15), (16, Value.int x16), (17, Value.int x17), (18, Value.int x18), (19, Value.int x19)] [] := by
  refine V_iconst (pc := 200) C (v := 0) dL_isSeat_200 rfl ?_
  refine V_sub [0, 1, 2, 3, 4, 5, 6, 7, 8, 9, 10, 11, 12, 13, 14, 15, 16, 17, 18] rfl ?_
  exact k_L_isSeat_201 hT hl C hr hnm htab  h
def w_L_isSeat_175  (Q : Nat → Int32 → Sg → Prop) (x10 : Int32) (x11 : Int32) (x12 : Int32) (x13 : Int32) (x14 : Int32) (x15 : Int32) (x16 : Int32) (x17 : Int32) (x18 : Int32) (y0 : Int32) (S : Sg) : Prop := ((x14 = 0 → w_L_isSeat_200  Q x10 x11 x12 x13 x14 x15 x16 x17 x18 y0 S) ∧ (¬ x14 = 0 → ((x15 ≤ x17 → w_L_isSeat_200  Q x10 x11 x12 x13 x14 x15 x16 x17 x18 y0 S) ∧ (¬ x15 ≤ x17 → ((x16 ≤ x18 → w_L_isSeat_200  Q x10 x11 x12 x13 x14 x15 x16 x17 x18 y0 S) ∧ (¬ x16 ≤ x18 → w_L_isSeat_201  Q x10 x11 x12 x13 x14 x15 x16 x17 x18 y0 1 S))))))
theorem k_L_isSeat_175 (hT : xT X = tb1) (hl : l.stackTraces = false) (C : Cn X k0 p l R s m meth c cL_isSeat RL 33 14 321) (hr : meth.sig.returnType = (some .boolean)) (hnm : meth.name = yL_isSeat.name) (htab : (∀ x ∈ c.exceptionTable.toList, False))  {x10 : Int32} {x11 : Int32} {x12 : Int32} {x13 : Int32} {x14 : Int32} {x15 : Int32} {x16 : Int32} {x17 : Int32} {x18 : Int32} {y0 : Int32} {S : Sg} (h : w_L_isSeat_175  Qa x10 x11 x12 x13 x14 x15 x16 x17 x18 y0 S) : V X p l e R s m args below meth c 33 (QM X below args s S0 ad0 rvI Qa) S0 ad0 S 175 [(0, Value.ref (enc 0 0)), (2, Value.ref (enc 13 4)), (3, Value.ref (enc 13 6)), (4, Value.ref (enc 13 7)), (5, Value.ref (enc 13 8)), (6, Value.ref (enc 13 9)), (7, Value.ref (enc 13 10)), (8, Value.ref (enc 13 11)), (9, Value.ref (enc 13 12)), (10, Value.int x10), (11, Value.int x11), (12, Value.int x12), (13, Value.int x13), (14, Value.int x14), (15, Value.int x15), (16, Value.int x16), (17, Value.int x17), (18, Value.int x18)] [Value.int y0] := by
  refine V_istore (pc := 175) C dL_isSeat_175 (by decide) rfl ?_
  refine V_iload (pc := 177) C dL_isSeat_177 14 rfl ?_
  refine V_if_eq (pc := 179) (tgt := 200) C dL_isSeat_179 (by decide) h (fun h => ?_) (fun h => ?_)
  · refine V_sub [1, 2, 3, 4, 5, 6, 7, 8, 9, 10, 11, 12, 13, 14, 15, 16, 17, 18, 0] rfl ?_
    exact k_L_isSeat_200 hT hl C hr hnm htab  h
  · refine V_iload (pc := 182) C dL_isSeat_182 17 rfl ?_
    refine V_iload (pc := 184) C dL_isSeat_184 15 rfl ?_
    refine V_icmp_ge (pc := 186) (tgt := 200) C dL_isSeat_186 (by decide) h (fun h => ?_) (fun h => ?_)
    · refine V_sub [1, 2, 3, 4, 5, 6, 7, 8, 9, 10, 11, 12, 13, 14, 15, 16, 17, 18, 0] rfl ?_
      exact k_L_isSeat_200 hT hl C hr hnm htab  h
    · refine V_iload (pc := 189) C dL_isSeat_189 18 rfl ?_
      refine V_iload (pc := 191) C dL_isSeat_191 16 rfl ?_
      refine V_icmp_ge (pc := 193) (tgt := 200) C dL_isSeat_193 (by decide) h (fun h => ?_) (fun h => ?_)
      · refine V_sub [1, 2, 3, 4, 5, 6, 7, 8, 9, 10, 11, 12, 13, 14, 15, 16, 17, 18, 0] rfl ?_
        exact k_L_isSeat_200 hT hl C hr hnm htab  h
      · refine V_iconst (pc := 196) C (v := 1) dL_isSeat_196 rfl ?_
        refine V_goto (pc := 197) (tgt := 201) C dL_isSeat_197 (by decide) ?_
        refine V_sub [1, 2, 3, 4, 5, 6, 7, 8, 9, 10, 11, 12, 13, 14, 15, 16, 17, 18, 0] rfl ?_
        exact k_L_isSeat_201 hT hl C hr hnm htab  h
def w_L_isSeat_121  (Q : Nat → Int32 → Sg → Prop) (x10 : Int32) (x11 : Int32) (x12 : Int32) (x13 : Int32) (x14 : Int32) (x15 : Int32) (x16 : Int32) (x17 : Int32) (y0 : Int32) (y1 : Int32) (y2 : Int32) (S : Sg) : Prop := (¬ (y1 + y0) = 0 ∧ (∀ v67, v67 = y2 - y2 / (y1 + y0) * (y1 + y0) → ((((x12 / 36) - (x12 / 36) / 13 * 13) = 12 → w_L_isSeat_175  Q x10 x11 x12 x13 x14 x15 x16 x17 v67 121 S) ∧ (¬ ((x12 / 36) - (x12 / 36) / 13 * 13) = 12 → ((((x12 / 36) - (x12 / 36) / 3 * 3) ≤ 0 → w_L_isSeat_175  Q x10 x11 x12 x13 x14 x15 x16 x17 v67 ((x12 / 36) - (x12 / 36) / 20 * 20) S) ∧ (¬ ((x12 / 36) - (x12 / 36) / 3 * 3) ≤ 0 → w_L_isSeat_175  Q x10 x11 x12 x13 x14 x15 x16 x17 v67 (20 + ((x12 / 36) - (x12 / 36) / 60 * 60)) S))))))
theorem k_L_isSeat_121 (hT : xT X = tb1) (hl : l.stackTraces = false) (C : Cn X k0 p l R s m meth c cL_isSeat RL 33 14 321) (hr : meth.sig.returnType = (some .boolean)) (hnm : meth.name = yL_isSeat.name) (htab : (∀ x ∈ c.exceptionTable.toList, False))  {x10 : Int32} {x11 : Int32} {x12 : Int32} {x13 : Int32} {x14 : Int32} {x15 : Int32} {x16 : Int32} {x17 : Int32} {y0 : Int32} {y1 : Int32} {y2 : Int32} {S : Sg} (h : w_L_isSeat_121  Qa x10 x11 x12 x13 x14 x15 x16 x17 y0 y1 y2 S) : V X p l e R s m args below meth c 33 (QM X below args s S0 ad0 rvI Qa) S0 ad0 S 121 [(0, Value.ref (enc 0 0)), (2, Value.ref (enc 13 4)), (3, Value.ref (enc 13 6)), (4, Value.ref (enc 13 7)), (5, Value.ref (enc 13 8)), (6, Value.ref (enc 13 9)), (7, Value.ref (enc 13 10)), (8, Value.ref (enc 13 11)), (9, Value.ref (enc 13 12)), (10, Value.int x10), (11, Value.int x11), (12, Value.int x12), (13, Value.int x13), (14, Value.int x14), (15, Value.int x15), (16, Value.int x16), (17, Value.int x17)] [Value.int y0, Value.int y1, Value.int y2] := by
  refine V_iadd (pc := 121) C dL_isSeat_121 ?_
  refine V_irem (pc := 122) C dL_isSeat_122 h.1 ?_
  replace h := h.2
  refine V_nI fun v67 e9 => ?_
  replace h := h v67 e9; clear e9
  refine V_istore (pc := 123) C dL_isSeat_123 (by decide) rfl ?_
  refine V_iload (pc := 125) C dL_isSeat_125 12 rfl ?_
  refine V_bipush (pc := 127) C (v := 36) dL_isSeat_127 rfl ?_
  refine V_idiv (pc := 129) C dL_isSeat_129 (by decide) ?_
  refine V_bipush (pc := 130) C (v := 13) dL_isSeat_130 rfl ?_
  refine V_irem (pc := 132) C dL_isSeat_132 (by decide) ?_
  refine V_bipush (pc := 133) C (v := 12) dL_isSeat_133 rfl ?_
  refine V_icmp_ne (pc := 135) (tgt := 143) C dL_isSeat_135 (by decide) h (fun h => ?_) (fun h => ?_)
  · refine V_iload (pc := 143) C dL_isSeat_143 12 rfl ?_
    refine V_bipush (pc := 145) C (v := 36) dL_isSeat_145 rfl ?_
    refine V_idiv (pc := 147) C dL_isSeat_147 (by decide) ?_
    refine V_iconst (pc := 148) C (v := 3) dL_isSeat_148 rfl ?_
    refine V_irem (pc := 149) C dL_isSeat_149 (by decide) ?_
    refine V_if_le (pc := 150) (tgt := 167) C dL_isSeat_150 (by decide) h (fun h => ?_) (fun h => ?_)
    · refine V_iload (pc := 167) C dL_isSeat_167 12 rfl ?_
      refine V_bipush (pc := 169) C (v := 36) dL_isSeat_169 rfl ?_
      refine V_idiv (pc := 171) C dL_isSeat_171 (by decide) ?_
      refine V_bipush (pc := 172) C (v := 20) dL_isSeat_172 rfl ?_
      refine V_irem (pc := 174) C dL_isSeat_174 (by decide) ?_
      refine V_sub [1, 2, 3, 4, 5, 6, 7, 8, 9, 10, 11, 12, 13, 14, 15, 16, 17, 0] rfl ?_
      exact k_L_isSeat_175 hT hl C hr hnm htab  h
    · refine V_bipush (pc := 153) C (v := 20) dL_isSeat_153 rfl ?_
      refine V_iload (pc := 155) C dL_isSeat_155 12 rfl ?_
      refine V_bipush (pc := 157) C (v := 36) dL_isSeat_157 rfl ?_
      refine V_idiv (pc := 159) C dL_isSeat_159 (by decide) ?_
      refine V_bipush (pc := 160) C (v := 60) dL_isSeat_160 rfl ?_
      refine V_irem (pc := 162) C dL_isSeat_162 (by decide) ?_
      refine V_iadd (pc := 163) C dL_isSeat_163 ?_
      refine V_goto (pc := 164) (tgt := 175) C dL_isSeat_164 (by decide) ?_
      refine V_sub [1, 2, 3, 4, 5, 6, 7, 8, 9, 10, 11, 12, 13, 14, 15, 16, 17, 0] rfl ?_
      exact k_L_isSeat_175 hT hl C hr hnm htab  h
  · refine V_bipush (pc := 138) C (v := 121) dL_isSeat_138 rfl ?_
    refine V_goto (pc := 140) (tgt := 175) C dL_isSeat_140 (by decide) ?_
    refine V_sub [1, 2, 3, 4, 5, 6, 7, 8, 9, 10, 11, 12, 13, 14, 15, 16, 17, 0] rfl ?_
    exact k_L_isSeat_175 hT hl C hr hnm htab  h
def w_L_isSeat_98  (Q : Nat → Int32 → Sg → Prop) (x10 : Int32) (x11 : Int32) (x12 : Int32) (x13 : Int32) (x14 : Int32) (x15 : Int32) (x16 : Int32) (y0 : Int32) (y1 : Int32) (y2 : Int32) (S : Sg) : Prop := (¬ (y1 + y0) = 0 ∧ (∀ v68, v68 = y2 - y2 / (y1 + y0) * (y1 + y0) → ((((x12 / 4) - (x12 / 4) / 9 * 9) = 0 → w_L_isSeat_121  Q x10 x11 x12 x13 x14 x15 x16 v68 1 x16 x12 S) ∧ (¬ ((x12 / 4) - (x12 / 4) / 9 * 9) = 0 → w_L_isSeat_121  Q x10 x11 x12 x13 x14 x15 x16 v68 0 x16 x12 S))))
theorem k_L_isSeat_98 (hT : xT X = tb1) (hl : l.stackTraces = false) (C : Cn X k0 p l R s m meth c cL_isSeat RL 33 14 321) (hr : meth.sig.returnType = (some .boolean)) (hnm : meth.name = yL_isSeat.name) (htab : (∀ x ∈ c.exceptionTable.toList, False))  {x10 : Int32} {x11 : Int32} {x12 : Int32} {x13 : Int32} {x14 : Int32} {x15 : Int32} {x16 : Int32} {y0 : Int32} {y1 : Int32} {y2 : Int32} {S : Sg} (h : w_L_isSeat_98  Qa x10 x11 x12 x13 x14 x15 x16 y0 y1 y2 S) : V X p l e R s m args below meth c 33 (QM X below args s S0 ad0 rvI Qa) S0 ad0 S 98 [(0, Value.ref (enc 0 0)), (2, Value.ref (enc 13 4)), (3, Value.ref (enc 13 6)), (4, Value.ref (enc 13 7)), (5, Value.ref (enc 13 8)), (6, Value.ref (enc 13 9)), (7, Value.ref (enc 13 10)), (8, Value.ref (enc 13 11)), (9, Value.ref (enc 13 12)), (10, Value.int x10), (11, Value.int x11), (12, Value.int x12), (13, Value.int x13), (14, Value.int x14), (15, Value.int x15), (16, Value.int x16)] [Value.int y0, Value.int y1, Value.int y2] := by
  refine V_iadd (pc := 98) C dL_isSeat_98 ?_
  refine V_irem (pc := 99) C dL_isSeat_99 h.1 ?_
  replace h := h.2
  refine V_nI fun v68 e9 => ?_
  replace h := h v68 e9; clear e9
  refine V_istore (pc := 100) C dL_isSeat_100 (by decide) rfl ?_
  refine V_iload (pc := 102) C dL_isSeat_102 12 rfl ?_
  refine V_iload (pc := 104) C dL_isSeat_104 16 rfl ?_
  refine V_iload (pc := 106) C dL_isSeat_106 12 rfl ?_
  refine V_iconst (pc := 108) C (v := 4) dL_isSeat_108 rfl ?_
  refine V_idiv (pc := 109) C dL_isSeat_109 (by decide) ?_
  refine V_bipush (pc := 110) C (v := 9) dL_isSeat_110 rfl ?_
  refine V_irem (pc := 112) C dL_isSeat_112 (by decide) ?_
  refine V_if_ne (pc := 113) (tgt := 120) C dL_isSeat_113 (by decide) h (fun h => ?_) (fun h => ?_)
  · refine V_iconst (pc := 120) C (v := 0) dL_isSeat_120 rfl ?_
    refine V_sub [1, 2, 3, 4, 5, 6, 7, 8, 9, 10, 11, 12, 13, 14, 15, 16, 0] rfl ?_
    exact k_L_isSeat_121 hT hl C hr hnm htab  h
  · refine V_iconst (pc := 116) C (v := 1) dL_isSeat_116 rfl ?_
    refine V_goto (pc := 117) (tgt := 121) C dL_isSeat_117 (by decide) ?_
    refine V_sub [1, 2, 3, 4, 5, 6, 7, 8, 9, 10, 11, 12, 13, 14, 15, 16, 0] rfl ?_
    exact k_L_isSeat_121 hT hl C hr hnm htab  h
def w_L_isSeat_73  (Q : Nat → Int32 → Sg → Prop) (x10 : Int32) (x11 : Int32) (x12 : Int32) (x13 : Int32) (x14 : Int32) (x15 : Int32) (y0 : Int32) (S : Sg) : Prop := ((((x11 / 24) - (x11 / 24) / 9 * 9) = 0 → w_L_isSeat_98  Q x10 x11 x12 x13 x14 x15 y0 1 x15 (x11 / 6) S) ∧ (¬ ((x11 / 24) - (x11 / 24) / 9 * 9) = 0 → w_L_isSeat_98  Q x10 x11 x12 x13 x14 x15 y0 0 x15 (x11 / 6) S))
theorem k_L_isSeat_73 (hT : xT X = tb1) (hl : l.stackTraces = false) (C : Cn X k0 p l R s m meth c cL_isSeat RL 33 14 321) (hr : meth.sig.returnType = (some .boolean)) (hnm : meth.name = yL_isSeat.name) (htab : (∀ x ∈ c.exceptionTable.toList, False))  {x10 : Int32} {x11 : Int32} {x12 : Int32} {x13 : Int32} {x14 : Int32} {x15 : Int32} {y0 : Int32} {S : Sg} (h : w_L_isSeat_73  Qa x10 x11 x12 x13 x14 x15 y0 S) : V X p l e R s m args below meth c 33 (QM X below args s S0 ad0 rvI Qa) S0 ad0 S 73 [(0, Value.ref (enc 0 0)), (2, Value.ref (enc 13 4)), (3, Value.ref (enc 13 6)), (4, Value.ref (enc 13 7)), (5, Value.ref (enc 13 8)), (6, Value.ref (enc 13 9)), (7, Value.ref (enc 13 10)), (8, Value.ref (enc 13 11)), (9, Value.ref (enc 13 12)), (10, Value.int x10), (11, Value.int x11), (12, Value.int x12), (13, Value.int x13), (14, Value.int x14), (15, Value.int x15)] [Value.int y0] := by
  refine V_istore (pc := 73) C dL_isSeat_73 (by decide) rfl ?_
  refine V_iload (pc := 75) C dL_isSeat_75 11 rfl ?_
  refine V_bipush (pc := 77) C (v := 6) dL_isSeat_77 rfl ?_
  refine V_idiv (pc := 79) C dL_isSeat_79 (by decide) ?_
  refine V_iload (pc := 80) C dL_isSeat_80 15 rfl ?_
  refine V_iload (pc := 82) C dL_isSeat_82 11 rfl ?_
  refine V_bipush (pc := 84) C (v := 24) dL_isSeat_84 rfl ?_
  refine V_idiv (pc := 86) C dL_isSeat_86 (by decide) ?_
  refine V_bipush (pc := 87) C (v := 9) dL_isSeat_87 rfl ?_
  refine V_irem (pc := 89) C dL_isSeat_89 (by decide) ?_
  refine V_if_ne (pc := 90) (tgt := 97) C dL_isSeat_90 (by decide) h (fun h => ?_) (fun h => ?_)
  · refine V_iconst (pc := 97) C (v := 0) dL_isSeat_97 rfl ?_
    refine V_sub [1, 2, 3, 4, 5, 6, 7, 8, 9, 10, 11, 12, 13, 14, 15, 0] rfl ?_
    exact k_L_isSeat_98 hT hl C hr hnm htab  h
  · refine V_iconst (pc := 93) C (v := 1) dL_isSeat_93 rfl ?_
    refine V_goto (pc := 94) (tgt := 98) C dL_isSeat_94 (by decide) ?_
    refine V_sub [1, 2, 3, 4, 5, 6, 7, 8, 9, 10, 11, 12, 13, 14, 15, 0] rfl ?_
    exact k_L_isSeat_98 hT hl C hr hnm htab  h
def w_L_isSeat_49  (Q : Nat → Int32 → Sg → Prop) (x10 : Int32) (x11 : Int32) (x12 : Int32) (x13 : Int32) (x14 : Int32) (y0 : Int32) (S : Sg) : Prop := ((x14 = 0 → w_L_isSeat_73  Q x10 x11 x12 x13 x14 y0 1 S) ∧ (¬ x14 = 0 → (vp_in x13 11 ∧ (vp_in (((S.1 106 (nt x13)) / 4) - ((S.1 106 (nt x13)) / 4) / 4 * 4) 7 ∧ w_L_isSeat_73  Q x10 x11 x12 x13 x14 y0 ((S.1 103 (nt (((S.1 106 (nt x13)) / 4) - ((S.1 106 (nt x13)) / 4) / 4 * 4))) / 8) S))))
theorem k_L_isSeat_49 (hT : xT X = tb1) (hl : l.stackTraces = false) (C : Cn X k0 p l R s m meth c cL_isSeat RL 33 14 321) (hr : meth.sig.returnType = (some .boolean)) (hnm : meth.name = yL_isSeat.name) (htab : (∀ x ∈ c.exceptionTable.toList, False))  {x10 : Int32} {x11 : Int32} {x12 : Int32} {x13 : Int32} {x14 : Int32} {y0 : Int32} {S : Sg} (h : w_L_isSeat_49  Qa x10 x11 x12 x13 x14 y0 S) : V X p l e R s m args below meth c 33 (QM X below args s S0 ad0 rvI Qa) S0 ad0 S 49 [(0, Value.ref (enc 0 0)), (1, Value.ref (enc 13 3)), (2, Value.ref (enc 13 4)), (3, Value.ref (enc 13 6)), (4, Value.ref (enc 13 7)), (5, Value.ref (enc 13 8)), (6, Value.ref (enc 13 9)), (7, Value.ref (enc 13 10)), (8, Value.ref (enc 13 11)), (9, Value.ref (enc 13 12)), (10, Value.int x10), (11, Value.int x11), (12, Value.int x12), (13, Value.int x13), (14, Value.int x14)] [Value.int y0] := by
  refine V_istore (pc := 49) C dL_isSeat_49 (by decide) rfl ?_
  refine V_iload (pc := 51) C dL_isSeat_51 15 rfl ?_
  refine V_if_eq (pc := 53) (tgt := 72) C dL_isSeat_53 (by decide) h (fun h => ?_) (fun h => ?_)
  · refine V_iconst (pc := 72) C (v := 1) dL_isSeat_72 rfl ?_
    refine V_sub [1, 3, 4, 5, 6, 7, 8, 9, 10, 11, 12, 13, 14, 15, 0] rfl ?_
    exact k_L_isSeat_73 hT hl C hr hnm htab  h
  · refine V_aload_n (pc := 56) C dL_isSeat_56 rfl 2 rfl ?_
    refine V_aload_n (pc := 57) C dL_isSeat_57 rfl 4 rfl ?_
    refine V_iload (pc := 58) C dL_isSeat_58 14 rfl ?_
    refine V_mld (pc := 60) C hT tb1_arr (n := 11) (c9 := 106) rfl rfl rfl h dL_isSeat_60 (fun h => ?_)
    refine V_iconst (pc := 61) C (v := 4) dL_isSeat_61 rfl ?_
    refine V_idiv (pc := 62) C dL_isSeat_62 (by decide) ?_
    refine V_iconst (pc := 63) C (v := 4) dL_isSeat_63 rfl ?_
    refine V_irem (pc := 64) C dL_isSeat_64 (by decide) ?_
    refine V_mld (pc := 65) C hT tb1_arr (n := 7) (c9 := 103) rfl rfl rfl h dL_isSeat_65 (fun h => ?_)
    refine V_bipush (pc := 66) C (v := 8) dL_isSeat_66 rfl ?_
    refine V_idiv (pc := 68) C dL_isSeat_68 (by decide) ?_
    refine V_goto (pc := 69) (tgt := 73) C dL_isSeat_69 (by decide) ?_
    refine V_sub [1, 3, 4, 5, 6, 7, 8, 9, 10, 11, 12, 13, 14, 15, 0] rfl ?_
    exact k_L_isSeat_73 hT hl C hr hnm htab  h
def w_L_isSeat_25  (Q : Nat → Int32 → Sg → Prop) (x10 : Int32) (x11 : Int32) (x12 : Int32) (x13 : Int32) (y0 : Int32) (S : Sg) : Prop := ((y0 = 0 → w_L_isSeat_49  Q x10 x11 x12 x13 y0 1 S) ∧ (¬ y0 = 0 → (vp_in x13 11 ∧ (vp_in (((S.1 106 (nt x13)) / 4) - ((S.1 106 (nt x13)) / 4) / 4 * 4) 7 ∧ w_L_isSeat_49  Q x10 x11 x12 x13 y0 ((S.1 103 (nt (((S.1 106 (nt x13)) / 4) - ((S.1 106 (nt x13)) / 4) / 4 * 4))) - (S.1 103 (nt (((S.1 106 (nt x13)) / 4) - ((S.1 106 (nt x13)) / 4) / 4 * 4))) / 8 * 8) S))))
theorem k_L_isSeat_25 (hT : xT X = tb1) (hl : l.stackTraces = false) (C : Cn X k0 p l R s m meth c cL_isSeat RL 33 14 321) (hr : meth.sig.returnType = (some .boolean)) (hnm : meth.name = yL_isSeat.name) (htab : (∀ x ∈ c.exceptionTable.toList, False))  {x10 : Int32} {x11 : Int32} {x12 : Int32} {x13 : Int32} {y0 : Int32} {S : Sg} (h : w_L_isSeat_25  Qa x10 x11 x12 x13 y0 S) : V X p l e R s m args below meth c 33 (QM X below args s S0 ad0 rvI Qa) S0 ad0 S 25 [(0, Value.ref (enc 0 0)), (1, Value.ref (enc 13 3)), (2, Value.ref (enc 13 4)), (3, Value.ref (enc 13 6)), (4, Value.ref (enc 13 7)), (5, Value.ref (enc 13 8)), (6, Value.ref (enc 13 9)), (7, Value.ref (enc 13 10)), (8, Value.ref (enc 13 11)), (9, Value.ref (enc 13 12)), (10, Value.int x10), (11, Value.int x11), (12, Value.int x12), (13, Value.int x13)] [Value.int y0] := by
  refine V_istore (pc := 25) C dL_isSeat_25 (by decide) rfl ?_
  refine V_iload (pc := 27) C dL_isSeat_27 0 rfl ?_
  refine V_if_eq (pc := 29) (tgt := 48) C dL_isSeat_29 (by decide) h (fun h => ?_) (fun h => ?_)
  · refine V_iconst (pc := 48) C (v := 1) dL_isSeat_48 rfl ?_
    refine V_sub [1, 2, 3, 4, 5, 6, 7, 8, 9, 10, 11, 12, 13, 14, 0] rfl ?_
    exact k_L_isSeat_49 hT hl C hr hnm htab  h
  · refine V_aload_n (pc := 32) C dL_isSeat_32 rfl 2 rfl ?_
    refine V_aload_n (pc := 33) C dL_isSeat_33 rfl 4 rfl ?_
    refine V_iload (pc := 34) C dL_isSeat_34 14 rfl ?_
    refine V_mld (pc := 36) C hT tb1_arr (n := 11) (c9 := 106) rfl rfl rfl h dL_isSeat_36 (fun h => ?_)
    refine V_iconst (pc := 37) C (v := 4) dL_isSeat_37 rfl ?_
    refine V_idiv (pc := 38) C dL_isSeat_38 (by decide) ?_
    refine V_iconst (pc := 39) C (v := 4) dL_isSeat_39 rfl ?_
    refine V_irem (pc := 40) C dL_isSeat_40 (by decide) ?_
    refine V_mld (pc := 41) C hT tb1_arr (n := 7) (c9 := 103) rfl rfl rfl h dL_isSeat_41 (fun h => ?_)
    refine V_bipush (pc := 42) C (v := 8) dL_isSeat_42 rfl ?_
    refine V_irem (pc := 44) C dL_isSeat_44 (by decide) ?_
    refine V_goto (pc := 45) (tgt := 49) C dL_isSeat_45 (by decide) ?_
    refine V_sub [1, 2, 3, 4, 5, 6, 7, 8, 9, 10, 11, 12, 13, 14, 0] rfl ?_
    exact k_L_isSeat_49 hT hl C hr hnm htab  h
def w_L_isSeat (a10 : Int32) (a11 : Int32) (a12 : Int32) (S : Sg) (Q : Nat → Int32 → Sg → Prop) : Prop := (vp_in 5 8 ∧ (¬ ((S.1 112 (nt 5)) + 1) = 0 ∧ (∀ v69, v69 = a11 - a11 / ((S.1 112 (nt 5)) + 1) * ((S.1 112 (nt 5)) + 1) → (vp_in 5 8 ∧ (((S.1 112 (nt 5)) ≤ v69 → w_L_isSeat_25  Q a10 a11 a12 v69 0 S) ∧ (¬ (S.1 112 (nt 5)) ≤ v69 → w_L_isSeat_25  Q a10 a11 a12 v69 1 S))))))
theorem ct_L_isSeat (hT : xT X = tb1) (hl : l.stackTraces = false) {a10 : Int32} {a11 : Int32} {a12 : Int32} {S : Sg} (h : w_L_isSeat a10 a11 a12 S Qa) : CT X k0 l yL_isSeat cL_isSeat 33 (some .boolean) 14 321 [Value.ref (enc 0 0), Value.ref (enc 13 3), Value.ref (enc 13 4), Value.ref (enc 13 6), Value.ref (enc 13 7), Value.ref (enc 13 8), Value.ref (enc 13 9), Value.ref (enc 13 10), Value.ref (enc 13 11), Value.ref (enc 13 12), Value.int a10, Value.int a11, Value.int a12] rvI S Qa :=
  CT_ofV (own := RL) (by decide +kernel) (le8 rfl) rfl hl fun p e R s m args below meth c ad0 C hr hnm htab => by
    refine V_iload (pc := 0) C dL_isSeat_0 11 rfl ?_
    refine V_aload (pc := 2) C dL_isSeat_2 9 rfl ?_
    refine V_iconst (pc := 4) C (v := 5) dL_isSeat_4 rfl ?_
    refine V_mld (pc := 5) C hT tb1_arr (n := 8) (c9 := 112) rfl rfl rfl h dL_isSeat_5 (fun h => ?_)
    refine V_iconst (pc := 6) C (v := 1) dL_isSeat_6 rfl ?_
    refine V_iadd (pc := 7) C dL_isSeat_7 ?_
    refine V_irem (pc := 8) C dL_isSeat_8 h.1 ?_
    replace h := h.2
    refine V_nI fun v69 e9 => ?_
    replace h := h v69 e9; clear e9
    refine V_istore (pc := 9) C dL_isSeat_9 (by decide) rfl ?_
    refine V_iload (pc := 11) C dL_isSeat_11 0 rfl ?_
    refine V_aload (pc := 13) C dL_isSeat_13 10 rfl ?_
    refine V_iconst (pc := 15) C (v := 5) dL_isSeat_15 rfl ?_
    refine V_mld (pc := 16) C hT tb1_arr (n := 8) (c9 := 112) rfl rfl rfl h dL_isSeat_16 (fun h => ?_)
    refine V_icmp_ge (pc := 17) (tgt := 24) C dL_isSeat_17 (by decide) h (fun h => ?_) (fun h => ?_)
    · refine V_iconst (pc := 24) C (v := 0) dL_isSeat_24 rfl ?_
      refine V_sub [1, 2, 3, 4, 5, 6, 7, 8, 9, 10, 11, 12, 13, 0] rfl ?_
      exact k_L_isSeat_25 hT hl C hr hnm htab  h
    · refine V_iconst (pc := 20) C (v := 1) dL_isSeat_20 rfl ?_
      refine V_goto (pc := 21) (tgt := 25) C dL_isSeat_21 (by decide) ?_
      refine V_sub [1, 2, 3, 4, 5, 6, 7, 8, 9, 10, 11, 12, 13, 0] rfl ?_
      exact k_L_isSeat_25 hT hl C hr hnm htab  h
end LB83
