section JM
variable {X : Cx} {p : Program} {l : Launch} {e : Env} {R : Room} {s : State} {m : MethodId} {args : Array Value} {below : List Frame} {meth : Method} {c : Code} {S0 : Sg} {ad0 : Nat → Nat} {Qa : Nat → Int32 → Sg → Prop}
theorem pl_J9_max_7cf53 : (parseMethodDescriptor yJ9_max_7cf53.desc).map (fun d => d.parameters.length) = some 2 := by decide +kernel
def w_J9_max_7cf53 (a0 : Int32) (a1 : Int32) (S : Sg) (Q : Nat → Int32 → Sg → Prop) : Prop := ((a0 < a1 → Q 0 a1 S) ∧ (¬ a0 < a1 → Q 0 a0 S))
theorem ct_J9_max_7cf53 (hT : xT X = tb1) (hl : l.stackTraces = false) {a0 : Int32} {a1 : Int32} {S : Sg} (h : w_J9_max_7cf53 a0 a1 S Qa) : CT X k0 l yJ9_max_7cf53 cJ9_max_7cf53 2 (some .int) 1 0 [Value.int a0, Value.int a1] rvI S Qa :=
  CT_ofVF (own := RJ9) (by decide +kernel) (le8 rfl) rfl hl fun p e R s m args below meth c ad0 C hr hnm htab => by
    refine V_iload_n (pc := 0) C dJ9_max_7cf53_0 rfl 0 rfl ?_
    refine V_iload_n (pc := 1) C dJ9_max_7cf53_1 rfl 1 rfl ?_
    refine V_icmp_lt (pc := 2) (tgt := 9) C dJ9_max_7cf53_2 (by decide) h (fun h => ?_) (fun h => ?_)
    · refine V_iload_n (pc := 9) C dJ9_max_7cf53_9 rfl 1 rfl ?_
      exact V_iret (pc := 10) C hr rfl h dJ9_max_7cf53_10
    · refine V_iload_n (pc := 5) C dJ9_max_7cf53_5 rfl 0 rfl ?_
      refine V_goto (pc := 6) (tgt := 10) C dJ9_max_7cf53_6 (by decide) ?_
      exact V_iret (pc := 10) C hr rfl h dJ9_max_7cf53_10
theorem pl_J9_abs_0f7a4 : (parseMethodDescriptor yJ9_abs_0f7a4.desc).map (fun d => d.parameters.length) = some 1 := by decide +kernel
def w_J9_abs_0f7a4 (a0 : Int32) (S : Sg) (Q : Nat → Int32 → Sg → Prop) : Prop := ((0 ≤ a0 → Q 0 a0 S) ∧ (¬ 0 ≤ a0 → Q 0 (-a0) S))
theorem ct_J9_abs_0f7a4 (hT : xT X = tb1) (hl : l.stackTraces = false) {a0 : Int32} {S : Sg} (h : w_J9_abs_0f7a4 a0 S Qa) : CT X k0 l yJ9_abs_0f7a4 cJ9_abs_0f7a4 1 (some .int) 1 0 [Value.int a0] rvI S Qa :=
  CT_ofVF (own := RJ9) (by decide +kernel) (le8 rfl) rfl hl fun p e R s m args below meth c ad0 C hr hnm htab => by
    refine V_iload_n (pc := 0) C dJ9_abs_0f7a4_0 rfl 0 rfl ?_
    refine V_if_ge (pc := 1) (tgt := 9) C dJ9_abs_0f7a4_1 (by decide) h (fun h => ?_) (fun h => ?_)
    · refine V_iload_n (pc := 9) C dJ9_abs_0f7a4_9 rfl 0 rfl ?_
      exact V_iret (pc := 10) C hr rfl h dJ9_abs_0f7a4_10
    · refine V_iload_n (pc := 4) C dJ9_abs_0f7a4_4 rfl 0 rfl ?_
      refine V_ineg (pc := 5) C dJ9_abs_0f7a4_5 ?_
      refine V_goto (pc := 6) (tgt := 10) C dJ9_abs_0f7a4_6 (by decide) ?_
      exact V_iret (pc := 10) C hr rfl h dJ9_abs_0f7a4_10
theorem pl_J9_min_7cf53 : (parseMethodDescriptor yJ9_min_7cf53.desc).map (fun d => d.parameters.length) = some 2 := by decide +kernel
def w_J9_min_7cf53 (a0 : Int32) (a1 : Int32) (S : Sg) (Q : Nat → Int32 → Sg → Prop) : Prop := ((a1 < a0 → Q 0 a1 S) ∧ (¬ a1 < a0 → Q 0 a0 S))
theorem ct_J9_min_7cf53 (hT : xT X = tb1) (hl : l.stackTraces = false) {a0 : Int32} {a1 : Int32} {S : Sg} (h : w_J9_min_7cf53 a0 a1 S Qa) : CT X k0 l yJ9_min_7cf53 cJ9_min_7cf53 2 (some .int) 1 0 [Value.int a0, Value.int a1] rvI S Qa :=
  CT_ofVF (own := RJ9) (by decide +kernel) (le8 rfl) rfl hl fun p e R s m args below meth c ad0 C hr hnm htab => by
    refine V_iload_n (pc := 0) C dJ9_min_7cf53_0 rfl 0 rfl ?_
    refine V_iload_n (pc := 1) C dJ9_min_7cf53_1 rfl 1 rfl ?_
    refine V_icmp_gt (pc := 2) (tgt := 9) C dJ9_min_7cf53_2 (by decide) h (fun h => ?_) (fun h => ?_)
    · refine V_iload_n (pc := 9) C dJ9_min_7cf53_9 rfl 1 rfl ?_
      exact V_iret (pc := 10) C hr rfl h dJ9_min_7cf53_10
    · refine V_iload_n (pc := 5) C dJ9_min_7cf53_5 rfl 0 rfl ?_
      refine V_goto (pc := 6) (tgt := 10) C dJ9_min_7cf53_6 (by decide) ?_
      exact V_iret (pc := 10) C hr rfl h dJ9_min_7cf53_10
end JM
