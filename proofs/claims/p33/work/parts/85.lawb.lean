section LB85
variable {X : Cx} {p : Program} {l : Launch} {e : Env} {R : Room} {s : State} {m : MethodId} {args : Array Value} {below : List Frame} {meth : Method} {c : Code} {S0 : Sg} {ad0 : Nat → Nat} {Qa : Nat → Int32 → Sg → Prop}
def w_L_law_529 (k177 : Int32 → Int32 → Sg → Prop) (Q : Nat → Int32 → Sg → Prop) (x13 : Int32) (y0 : Int32) (S : Sg) : Prop := k177 y0 (x13 + 1) S
theorem k_L_law_529 (hT : xT X = tb1) (hl : l.stackTraces = false) (C : Cn X k0 p l R s m meth c cL_law RL 17 16 708) (hr : meth.sig.returnType = (some .boolean)) {Q9 : State → Prop} (hfin : ∀ {x : Int32} {S : Sg} {lv : List (Nat × Value)}, Qa 0 x S → V X p l e R s m args below meth c 17 Q9 S0 ad0 S 539 lv [Value.int x]) {k177 : Int32 → Int32 → Sg → Prop} (hk177 : ∀ {x12 : Int32} {x13 : Int32} {S : Sg}, k177 x12 x13 S → V X p l e R s m args below meth c 17 (Q9) S0 ad0 S 177 [(0, Value.ref 63), (1, Value.ref (enc 0 0)), (2, Value.ref (enc 13 3)), (3, Value.ref (enc 13 4)), (4, Value.ref (enc 13 5)), (5, Value.ref (enc 13 6)), (6, Value.ref (enc 13 7)), (7, Value.ref (enc 13 8)), (8, Value.ref (enc 13 9)), (9, Value.ref (enc 13 10)), (10, Value.ref (enc 13 11)), (11, Value.ref (enc 13 12)), (12, Value.int x12), (13, Value.int x13)] []) {x13 : Int32} {y0 : Int32} {S : Sg} (h : w_L_law_529 k177 Qa x13 y0 S) : V X p l e R s m args below meth c 17 (Q9) S0 ad0 S 529 [(0, Value.ref 63), (1, Value.ref (enc 0 0)), (2, Value.ref (enc 13 3)), (3, Value.ref (enc 13 4)), (4, Value.ref (enc 13 5)), (5, Value.ref (enc 13 6)), (6, Value.ref (enc 13 7)), (7, Value.ref (enc 13 8)), (8, Value.ref (enc 13 9)), (9, Value.ref (enc 13 10)), (10, Value.ref (enc 13 11)), (11, Value.ref (enc 13 12)), (13, Value.int x13)] [Value.int y0] := by
  refine V_istore (pc := 529) C dL_law_529 (by decide) rfl ?_
  refine V_iinc (pc := 531) C (a := 13) (v := x13 + 1) dL_law_531 rfl rfl (by decide) rfl ?_
  refine V_goto (pc := 534) (tgt := 177) C dL_law_534 (by decide) ?_
  refine V_sub [2, 3, 4, 5, 6, 7, 8, 9, 10, 11, 12, 13, 1, 0] rfl ?_
  exact hk177 h
def w_L_law_528 (k177 : Int32 → Int32 → Sg → Prop) (Q : Nat → Int32 → Sg → Prop) (x13 : Int32) (S : Sg) : Prop := w_L_law_529 k177 Q x13 0 S
theorem k_L_law_528 (hT : xT X = tb1) (hl : l.stackTraces = false) (C : Cn X k0 p l R s m meth c cL_law RL 17 16 708) (hr : meth.sig.returnType = (some .boolean)) {Q9 : State → Prop} (hfin : ∀ {x : Int32} {S : Sg} {lv : List (Nat × Value)}, Qa 0 x S → V X p l e R s m args below meth c 17 Q9 S0 ad0 S 539 lv [Value.int x]) {k177 : Int32 → Int32 → Sg → Prop} (hk177 : ∀ {x12 : Int32} {x13 : Int32} {S : Sg}, k177 x12 x13 S → V X p l e R s m args below meth c 17 (Q9) S0 ad0 S 177 [(0, Value.ref 63), (1, Value.ref (enc 0 0)), (2, Value.ref (enc 13 3)), (3, Value.ref (enc 13 4)), (4, Value.ref (enc 13 5)), (5, Value.ref (enc 13 6)), (6, Value.ref (enc 13 7)), (7, Value.ref (enc 13 8)), (8, Value.ref (enc 13 9)), (9, Value.ref (enc 13 10)), (10, Value.ref (enc 13 11)), (11, Value.ref (enc 13 12)), (12, Value.int x12), (13, Value.int x13)] []) {x13 : Int32} {S : Sg} (h : w_L_law_528 k177 Qa x13 S) : V X p l e R s m args below meth c 17 (Q9) S0 ad0 S 528 [(0, Value.ref 63), (1, Value.ref (enc 0 0)), (2, Value.ref (enc 13 3)), (3, Value.ref (enc 13 4)), (4, Value.ref (enc 13 5)), (5, Value.ref (enc 13 6)), (6, Value.ref (enc 13 7)), (7, Value.ref (enc 13 8)), (8, Value.ref (enc 13 9)), (9, Value.ref (enc 13 10)), (10, Value.ref (enc 13 11)), (11, Value.ref (enc 13 12)), (13, Value.int x13)] [] := by
  refine V_iconst (pc := 528) C (v := 0) dL_law_528 rfl ?_
  refine V_sub [0, 1, 2, 3, 4, 5, 6, 7, 8, 9, 10, 11, 12] rfl ?_
  exact k_L_law_529 hT hl C hr hfin (fun h => hk177 h) h
def w_L_law_490 (k177 : Int32 → Int32 → Sg → Prop) (Q : Nat → Int32 → Sg → Prop) (x12 : Int32) (x13 : Int32) (x15 : Int32) (x16 : Int32) (S : Sg) : Prop := ((x12 = 0 → w_L_law_528 k177 Q x13 S) ∧ (¬ x12 = 0 → (w_L_isSo x15 x16 S (fun k3 v2 S1 => (k3 = 0 → ((v2 = 0 → w_L_law_528 k177 Q x13 S1) ∧ (¬ v2 = 0 → w_L_law_529 k177 Q x13 1 S1))) ∧ (¬ k3 = 0 → False)))))
theorem k_L_law_490 (hT : xT X = tb1) (hl : l.stackTraces = false) (C : Cn X k0 p l R s m meth c cL_law RL 17 16 708) (hr : meth.sig.returnType = (some .boolean)) {Q9 : State → Prop} (hfin : ∀ {x : Int32} {S : Sg} {lv : List (Nat × Value)}, Qa 0 x S → V X p l e R s m args below meth c 17 Q9 S0 ad0 S 539 lv [Value.int x]) {k177 : Int32 → Int32 → Sg → Prop} (hk177 : ∀ {x12 : Int32} {x13 : Int32} {S : Sg}, k177 x12 x13 S → V X p l e R s m args below meth c 17 (Q9) S0 ad0 S 177 [(0, Value.ref 63), (1, Value.ref (enc 0 0)), (2, Value.ref (enc 13 3)), (3, Value.ref (enc 13 4)), (4, Value.ref (enc 13 5)), (5, Value.ref (enc 13 6)), (6, Value.ref (enc 13 7)), (7, Value.ref (enc 13 8)), (8, Value.ref (enc 13 9)), (9, Value.ref (enc 13 10)), (10, Value.ref (enc 13 11)), (11, Value.ref (enc 13 12)), (12, Value.int x12), (13, Value.int x13)] []) {x12 : Int32} {x13 : Int32} {x15 : Int32} {x16 : Int32} {S : Sg} (h : w_L_law_490 k177 Qa x12 x13 x15 x16 S) : V X p l e R s m args below meth c 17 (Q9) S0 ad0 S 490 [(0, Value.ref 63), (1, Value.ref (enc 0 0)), (2, Value.ref (enc 13 3)), (3, Value.ref (enc 13 4)), (4, Value.ref (enc 13 5)), (5, Value.ref (enc 13 6)), (6, Value.ref (enc 13 7)), (7, Value.ref (enc 13 8)), (8, Value.ref (enc 13 9)), (9, Value.ref (enc 13 10)), (10, Value.ref (enc 13 11)), (11, Value.ref (enc 13 12)), (12, Value.int x12), (13, Value.int x13), (15, Value.int x15), (16, Value.int x16)] [] := by
  refine V_iload (pc := 490) C dL_law_490 12 rfl ?_
  refine V_if_eq (pc := 492) (tgt := 528) C dL_law_492 (by decide) h (fun h => ?_) (fun h => ?_)
  · refine V_sub [0, 1, 2, 3, 4, 5, 6, 7, 8, 9, 10, 11, 13] rfl ?_
    exact k_L_law_528 hT hl C hr hfin (fun h => hk177 h) h
  · refine V_aload_n (pc := 495) C dL_law_495 rfl 1 rfl ?_
    refine V_aload_n (pc := 496) C dL_law_496 rfl 2 rfl ?_
    refine V_aload_n (pc := 497) C dL_law_497 rfl 3 rfl ?_
    refine V_aload (pc := 498) C dL_law_498 4 rfl ?_
    refine V_aload (pc := 500) C dL_law_500 5 rfl ?_
    refine V_aload (pc := 502) C dL_law_502 6 rfl ?_
    refine V_aload (pc := 504) C dL_law_504 7 rfl ?_
    refine V_aload (pc := 506) C dL_law_506 8 rfl ?_
    refine V_aload (pc := 508) C dL_law_508 9 rfl ?_
    refine V_aload (pc := 510) C dL_law_510 10 rfl ?_
    refine V_aload (pc := 512) C dL_law_512 11 rfl ?_
    refine V_iload (pc := 514) C dL_law_514 14 rfl ?_
    refine V_iload (pc := 516) C dL_law_516 15 rfl ?_
    refine V_callS (pc := 518) C (ct_L_isSo hT hl h) g782 g783 g784 g32 ⟨by decide, by decide, pl_L_isSo⟩ ⟨by decide, by decide⟩ (rest := []) rfl (le8 rfl) dL_law_518 (fun v2 S1 h => ?_) (fun k9 S9 hk h => (h.2 (by omega)).elim)
    replace h := h.1 rfl
    refine V_st (st' := [Value.int v2]) rfl ?_
    refine V_if_eq (pc := 521) (tgt := 528) C dL_law_521 (by decide) h (fun h => ?_) (fun h => ?_)
    · refine V_sub [0, 1, 2, 3, 4, 5, 6, 7, 8, 9, 10, 11, 13] rfl ?_
      exact k_L_law_528 hT hl C hr hfin (fun h => hk177 h) h
    · refine V_iconst (pc := 524) C (v := 1) dL_law_524 rfl ?_
      refine V_goto (pc := 525) (tgt := 529) C dL_law_525 (by decide) ?_
      refine V_sub [0, 1, 2, 3, 4, 5, 6, 7, 8, 9, 10, 11, 13] rfl ?_
      exact k_L_law_529 hT hl C hr hfin (fun h => hk177 h) h
def w_L_law_481 (k177 : Int32 → Int32 → Sg → Prop) (Q : Nat → Int32 → Sg → Prop) (x13 : Int32) (x15 : Int32) (x16 : Int32) (y0 : Int32) (S : Sg) : Prop := (w_L_isShown y0 x15 x16 S (fun k6 v5 S4 => (k6 = 0 → w_L_law_490 k177 Q v5 x13 x15 x16 S4) ∧ (¬ k6 = 0 → False)))
theorem k_L_law_481 (hT : xT X = tb1) (hl : l.stackTraces = false) (C : Cn X k0 p l R s m meth c cL_law RL 17 16 708) (hr : meth.sig.returnType = (some .boolean)) {Q9 : State → Prop} (hfin : ∀ {x : Int32} {S : Sg} {lv : List (Nat × Value)}, Qa 0 x S → V X p l e R s m args below meth c 17 Q9 S0 ad0 S 539 lv [Value.int x]) {k177 : Int32 → Int32 → Sg → Prop} (hk177 : ∀ {x12 : Int32} {x13 : Int32} {S : Sg}, k177 x12 x13 S → V X p l e R s m args below meth c 17 (Q9) S0 ad0 S 177 [(0, Value.ref 63), (1, Value.ref (enc 0 0)), (2, Value.ref (enc 13 3)), (3, Value.ref (enc 13 4)), (4, Value.ref (enc 13 5)), (5, Value.ref (enc 13 6)), (6, Value.ref (enc 13 7)), (7, Value.ref (enc 13 8)), (8, Value.ref (enc 13 9)), (9, Value.ref (enc 13 10)), (10, Value.ref (enc 13 11)), (11, Value.ref (enc 13 12)), (12, Value.int x12), (13, Value.int x13)] []) {x13 : Int32} {x15 : Int32} {x16 : Int32} {y0 : Int32} {S : Sg} (h : w_L_law_481 k177 Qa x13 x15 x16 y0 S) : V X p l e R s m args below meth c 17 (Q9) S0 ad0 S 481 [(0, Value.ref 63), (1, Value.ref (enc 0 0)), (2, Value.ref (enc 13 3)), (3, Value.ref (enc 13 4)), (4, Value.ref (enc 13 5)), (5, Value.ref (enc 13 6)), (6, Value.ref (enc 13 7)), (7, Value.ref (enc 13 8)), (8, Value.ref (enc 13 9)), (9, Value.ref (enc 13 10)), (10, Value.ref (enc 13 11)), (11, Value.ref (enc 13 12)), (13, Value.int x13), (15, Value.int x15), (16, Value.int x16)] [Value.int y0, Value.ref (enc 13 12), Value.ref (enc 13 11), Value.ref (enc 13 10), Value.ref (enc 13 9), Value.ref (enc 13 8), Value.ref (enc 13 7), Value.ref (enc 13 6), Value.ref (enc 13 4), Value.ref (enc 13 3), Value.ref (enc 0 0)] := by
  refine V_iload (pc := 481) C dL_law_481 13 rfl ?_
  refine V_iload (pc := 483) C dL_law_483 14 rfl ?_
  refine V_callS (pc := 485) C (ct_L_isShown hT hl h) g899 g900 g901 g32 ⟨by decide, by decide, pl_L_isShown⟩ ⟨by decide, by decide⟩ (rest := []) rfl (le8 rfl) dL_law_485 (fun v5 S4 h => ?_) (fun k9 S9 hk h => (h.2 (by omega)).elim)
  replace h := h.1 rfl
  refine V_st (st' := [Value.int v5]) rfl ?_
  refine V_istore (pc := 488) C dL_law_488 (by decide) rfl ?_
  refine V_sub [1, 2, 3, 4, 5, 6, 7, 8, 9, 10, 11, 12, 0, 13, 14, 15] rfl ?_
  exact k_L_law_490 hT hl C hr hfin (fun h => hk177 h) h
def w_L_law_429 (k177 : Int32 → Int32 → Sg → Prop) (Q : Nat → Int32 → Sg → Prop) (x13 : Int32) (x15 : Int32) (x16 : Int32) (y0 : Int32) (S : Sg) : Prop := (w_L_isSeat y0 x15 x16 S (fun k9 v8 S7 => (k9 = 0 → w_L_law_490 k177 Q v8 x13 x15 x16 S7) ∧ (¬ k9 = 0 → False)))
theorem k_L_law_429 (hT : xT X = tb1) (hl : l.stackTraces = false) (C : Cn X k0 p l R s m meth c cL_law RL 17 16 708) (hr : meth.sig.returnType = (some .boolean)) {Q9 : State → Prop} (hfin : ∀ {x : Int32} {S : Sg} {lv : List (Nat × Value)}, Qa 0 x S → V X p l e R s m args below meth c 17 Q9 S0 ad0 S 539 lv [Value.int x]) {k177 : Int32 → Int32 → Sg → Prop} (hk177 : ∀ {x12 : Int32} {x13 : Int32} {S : Sg}, k177 x12 x13 S → V X p l e R s m args below meth c 17 (Q9) S0 ad0 S 177 [(0, Value.ref 63), (1, Value.ref (enc 0 0)), (2, Value.ref (enc 13 3)), (3, Value.ref (enc 13 4)), (4, Value.ref (enc 13 5)), (5, Value.ref (enc 13 6)), (6, Value.ref (enc 13 7)), (7, Value.ref (enc 13 8)), (8, Value.ref (enc 13 9)), (9, Value.ref (enc 13 10)), (10, Value.ref (enc 13 11)), (11, Value.ref (enc 13 12)), (12, Value.int x12), (13, Value.int x13)] []) {x13 : Int32} {x15 : Int32} {x16 : Int32} {y0 : Int32} {S : Sg} (h : w_L_law_429 k177 Qa x13 x15 x16 y0 S) : V X p l e R s m args below meth c 17 (Q9) S0 ad0 S 429 [(0, Value.ref 63), (1, Value.ref (enc 0 0)), (2, Value.ref (enc 13 3)), (3, Value.ref (enc 13 4)), (4, Value.ref (enc 13 5)), (5, Value.ref (enc 13 6)), (6, Value.ref (enc 13 7)), (7, Value.ref (enc 13 8)), (8, Value.ref (enc 13 9)), (9, Value.ref (enc 13 10)), (10, Value.ref (enc 13 11)), (11, Value.ref (enc 13 12)), (13, Value.int x13), (15, Value.int x15), (16, Value.int x16)] [Value.int y0, Value.ref (enc 13 12), Value.ref (enc 13 11), Value.ref (enc 13 10), Value.ref (enc 13 9), Value.ref (enc 13 8), Value.ref (enc 13 7), Value.ref (enc 13 6), Value.ref (enc 13 4), Value.ref (enc 13 3), Value.ref (enc 0 0)] := by
  refine V_iload (pc := 429) C dL_law_429 13 rfl ?_
  refine V_iload (pc := 431) C dL_law_431 14 rfl ?_
  refine V_callS (pc := 433) C (ct_L_isSeat hT hl h) g890 g891 g892 g32 ⟨by decide, by decide, pl_L_isSeat⟩ ⟨by decide, by decide⟩ (rest := []) rfl (le8 rfl) dL_law_433 (fun v8 S7 h => ?_) (fun k9 S9 hk h => (h.2 (by omega)).elim)
  replace h := h.1 rfl
  refine V_st (st' := [Value.int v8]) rfl ?_
  refine V_istore (pc := 436) C dL_law_436 (by decide) rfl ?_
  refine V_goto (pc := 438) (tgt := 490) C dL_law_438 (by decide) ?_
  refine V_sub [1, 2, 3, 4, 5, 6, 7, 8, 9, 10, 11, 12, 0, 13, 14, 15] rfl ?_
  exact k_L_law_490 hT hl C hr hfin (fun h => hk177 h) h
def w_L_law_325 (k177 : Int32 → Int32 → Sg → Prop) (Q : Nat → Int32 → Sg → Prop) (x13 : Int32) (x15 : Int32) (x16 : Int32) (y0 : Int32) (S : Sg) : Prop := (w_L_isTold y0 x15 x16 S (fun k12 v11 S10 => (k12 = 0 → w_L_law_490 k177 Q v11 x13 x15 x16 S10) ∧ (¬ k12 = 0 → False)))
theorem k_L_law_325 (hT : xT X = tb1) (hl : l.stackTraces = false) (C : Cn X k0 p l R s m meth c cL_law RL 17 16 708) (hr : meth.sig.returnType = (some .boolean)) {Q9 : State → Prop} (hfin : ∀ {x : Int32} {S : Sg} {lv : List (Nat × Value)}, Qa 0 x S → V X p l e R s m args below meth c 17 Q9 S0 ad0 S 539 lv [Value.int x]) {k177 : Int32 → Int32 → Sg → Prop} (hk177 : ∀ {x12 : Int32} {x13 : Int32} {S : Sg}, k177 x12 x13 S → V X p l e R s m args below meth c 17 (Q9) S0 ad0 S 177 [(0, Value.ref 63), (1, Value.ref (enc 0 0)), (2, Value.ref (enc 13 3)), (3, Value.ref (enc 13 4)), (4, Value.ref (enc 13 5)), (5, Value.ref (enc 13 6)), (6, Value.ref (enc 13 7)), (7, Value.ref (enc 13 8)), (8, Value.ref (enc 13 9)), (9, Value.ref (enc 13 10)), (10, Value.ref (enc 13 11)), (11, Value.ref (enc 13 12)), (12, Value.int x12), (13, Value.int x13)] []) {x13 : Int32} {x15 : Int32} {x16 : Int32} {y0 : Int32} {S : Sg} (h : w_L_law_325 k177 Qa x13 x15 x16 y0 S) : V X p l e R s m args below meth c 17 (Q9) S0 ad0 S 325 [(0, Value.ref 63), (1, Value.ref (enc 0 0)), (2, Value.ref (enc 13 3)), (3, Value.ref (enc 13 4)), (4, Value.ref (enc 13 5)), (5, Value.ref (enc 13 6)), (6, Value.ref (enc 13 7)), (7, Value.ref (enc 13 8)), (8, Value.ref (enc 13 9)), (9, Value.ref (enc 13 10)), (10, Value.ref (enc 13 11)), (11, Value.ref (enc 13 12)), (13, Value.int x13), (15, Value.int x15), (16, Value.int x16)] [Value.int y0, Value.ref (enc 13 12), Value.ref (enc 13 6), Value.ref (enc 13 5), Value.ref (enc 13 4), Value.ref (enc 13 3), Value.ref (enc 0 0)] := by
  refine V_iload (pc := 325) C dL_law_325 13 rfl ?_
  refine V_iload (pc := 327) C dL_law_327 14 rfl ?_
  refine V_callS (pc := 329) C (ct_L_isTold hT hl h) g880 g881 g882 g32 ⟨by decide, by decide, pl_L_isTold⟩ ⟨by decide, by decide⟩ (rest := []) rfl (le8 rfl) dL_law_329 (fun v11 S10 h => ?_) (fun k9 S9 hk h => (h.2 (by omega)).elim)
  replace h := h.1 rfl
  refine V_st (st' := [Value.int v11]) rfl ?_
  refine V_istore (pc := 332) C dL_law_332 (by decide) rfl ?_
  refine V_goto (pc := 334) (tgt := 490) C dL_law_334 (by decide) ?_
  refine V_sub [1, 2, 3, 4, 5, 6, 7, 8, 9, 10, 11, 12, 0, 13, 14, 15] rfl ?_
  exact k_L_law_490 hT hl C hr hfin (fun h => hk177 h) h
def w_L_law_242 (k177 : Int32 → Int32 → Sg → Prop) (Q : Nat → Int32 → Sg → Prop) (x13 : Int32) (y0 : Int32) (S : Sg) : Prop := (w_L_part ((3 * x13) + 1) 60000 S (fun k15 v14 S13 => (k15 = 0 → (w_L_part ((3 * x13) + 2) 60000 S13 (fun k18 v17 S16 => (k18 = 0 → ((14 ≤ y0 → ((48 ≤ y0 → ((y0 = 48 → w_L_law_481 k177 Q x13 v14 v17 0 S16) ∧ (¬ y0 = 48 → ((52 ≤ y0 → w_L_law_481 k177 Q x13 v14 v17 2 S16) ∧ (¬ 52 ≤ y0 → w_L_law_481 k177 Q x13 v14 v17 1 S16))))) ∧ (¬ 48 ≤ y0 → ((20 ≤ y0 → ((y0 = 20 → w_L_law_429 k177 Q x13 v14 v17 1 S16) ∧ (¬ y0 = 20 → ((23 ≤ y0 → ((31 ≤ y0 → ((37 ≤ y0 → ((41 ≤ y0 → w_L_law_429 k177 Q x13 v14 v17 6 S16) ∧ (¬ 41 ≤ y0 → w_L_law_429 k177 Q x13 v14 v17 5 S16))) ∧ (¬ 37 ≤ y0 → w_L_law_429 k177 Q x13 v14 v17 4 S16))) ∧ (¬ 31 ≤ y0 → w_L_law_429 k177 Q x13 v14 v17 3 S16))) ∧ (¬ 23 ≤ y0 → w_L_law_429 k177 Q x13 v14 v17 2 S16))))) ∧ (¬ 20 ≤ y0 → w_L_law_429 k177 Q x13 v14 v17 0 S16))))) ∧ (¬ 14 ≤ y0 → ((6 ≤ y0 → ((y0 = 6 → w_L_law_325 k177 Q x13 v14 v17 5 S16) ∧ (¬ y0 = 6 → ((13 ≤ y0 → w_L_law_325 k177 Q x13 v14 v17 7 S16) ∧ (¬ 13 ≤ y0 → w_L_law_325 k177 Q x13 v14 v17 6 S16))))) ∧ (¬ 6 ≤ y0 → w_L_law_325 k177 Q x13 v14 v17 y0 S16))))) ∧ (¬ k18 = 0 → False)))) ∧ (¬ k15 = 0 → False)))
theorem k_L_law_242 (hT : xT X = tb1) (hl : l.stackTraces = false) (C : Cn X k0 p l R s m meth c cL_law RL 17 16 708) (hr : meth.sig.returnType = (some .boolean)) {Q9 : State → Prop} (hfin : ∀ {x : Int32} {S : Sg} {lv : List (Nat × Value)}, Qa 0 x S → V X p l e R s m args below meth c 17 Q9 S0 ad0 S 539 lv [Value.int x]) {k177 : Int32 → Int32 → Sg → Prop} (hk177 : ∀ {x12 : Int32} {x13 : Int32} {S : Sg}, k177 x12 x13 S → V X p l e R s m args below meth c 17 (Q9) S0 ad0 S 177 [(0, Value.ref 63), (1, Value.ref (enc 0 0)), (2, Value.ref (enc 13 3)), (3, Value.ref (enc 13 4)), (4, Value.ref (enc 13 5)), (5, Value.ref (enc 13 6)), (6, Value.ref (enc 13 7)), (7, Value.ref (enc 13 8)), (8, Value.ref (enc 13 9)), (9, Value.ref (enc 13 10)), (10, Value.ref (enc 13 11)), (11, Value.ref (enc 13 12)), (12, Value.int x12), (13, Value.int x13)] []) {x13 : Int32} {y0 : Int32} {S : Sg} (h : w_L_law_242 k177 Qa x13 y0 S) : V X p l e R s m args below meth c 17 (Q9) S0 ad0 S 242 [(0, Value.ref 63), (1, Value.ref (enc 0 0)), (2, Value.ref (enc 13 3)), (3, Value.ref (enc 13 4)), (4, Value.ref (enc 13 5)), (5, Value.ref (enc 13 6)), (6, Value.ref (enc 13 7)), (7, Value.ref (enc 13 8)), (8, Value.ref (enc 13 9)), (9, Value.ref (enc 13 10)), (10, Value.ref (enc 13 11)), (11, Value.ref (enc 13 12)), (13, Value.int x13)] [Value.int y0] := by
  refine V_istore (pc := 242) C dL_law_242 (by decide) rfl ?_
  refine V_aload_n (pc := 244) C dL_law_244 rfl 1 rfl ?_
  refine V_iconst (pc := 245) C (v := 3) dL_law_245 rfl ?_
  refine V_iload (pc := 246) C dL_law_246 13 rfl ?_
  refine V_imul (pc := 248) C dL_law_248 ?_
  refine V_iconst (pc := 249) C (v := 1) dL_law_249 rfl ?_
  refine V_iadd (pc := 250) C dL_law_250 ?_
  refine V_ldc (pc := 251) C g905 dL_law_251 ?_
  refine V_callS (pc := 253) C (ct_L_part hT hl h) g115 g116 g117 g32 ⟨by decide, by decide, pl_L_part⟩ ⟨by decide, by decide⟩ (rest := []) rfl (le8 rfl) dL_law_253 (fun v14 S13 h => ?_) (fun k9 S9 hk h => (h.2 (by omega)).elim)
  replace h := h.1 rfl
  refine V_st (st' := [Value.int v14]) rfl ?_
  refine V_istore (pc := 256) C dL_law_256 (by decide) rfl ?_
  refine V_aload_n (pc := 258) C dL_law_258 rfl 2 rfl ?_
  refine V_iconst (pc := 259) C (v := 3) dL_law_259 rfl ?_
  refine V_iload (pc := 260) C dL_law_260 14 rfl ?_
  refine V_imul (pc := 262) C dL_law_262 ?_
  refine V_iconst (pc := 263) C (v := 2) dL_law_263 rfl ?_
  refine V_iadd (pc := 264) C dL_law_264 ?_
  refine V_ldc (pc := 265) C g905 dL_law_265 ?_
  refine V_callS (pc := 267) C (ct_L_part hT hl h) g115 g116 g117 g32 ⟨by decide, by decide, pl_L_part⟩ ⟨by decide, by decide⟩ (rest := []) rfl (le8 rfl) dL_law_267 (fun v17 S16 h => ?_) (fun k9 S9 hk h => (h.2 (by omega)).elim)
  replace h := h.1 rfl
  refine V_st (st' := [Value.int v17]) rfl ?_
  refine V_istore (pc := 270) C dL_law_270 (by decide) rfl ?_
  refine V_iload (pc := 272) C dL_law_272 2 rfl ?_
  refine V_bipush (pc := 274) C (v := 14) dL_law_274 rfl ?_
  refine V_icmp_ge (pc := 276) (tgt := 337) C dL_law_276 (by decide) h (fun h => ?_) (fun h => ?_)
  · refine V_iload (pc := 337) C dL_law_337 2 rfl ?_
    refine V_bipush (pc := 339) C (v := 48) dL_law_339 rfl ?_
    refine V_icmp_ge (pc := 341) (tgt := 441) C dL_law_341 (by decide) h (fun h => ?_) (fun h => ?_)
    · refine V_aload_n (pc := 441) C dL_law_441 rfl 4 rfl ?_
      refine V_aload_n (pc := 442) C dL_law_442 rfl 5 rfl ?_
      refine V_aload_n (pc := 443) C dL_law_443 rfl 6 rfl ?_
      refine V_aload (pc := 444) C dL_law_444 8 rfl ?_
      refine V_aload (pc := 446) C dL_law_446 9 rfl ?_
      refine V_aload (pc := 448) C dL_law_448 10 rfl ?_
      refine V_aload (pc := 450) C dL_law_450 11 rfl ?_
      refine V_aload (pc := 452) C dL_law_452 12 rfl ?_
      refine V_aload (pc := 454) C dL_law_454 13 rfl ?_
      refine V_aload (pc := 456) C dL_law_456 14 rfl ?_
      refine V_iload (pc := 458) C dL_law_458 2 rfl ?_
      refine V_bipush (pc := 460) C (v := 48) dL_law_460 rfl ?_
      refine V_icmp_ne (pc := 462) (tgt := 469) C dL_law_462 (by decide) h (fun h => ?_) (fun h => ?_)
      · refine V_iload (pc := 469) C dL_law_469 2 rfl ?_
        refine V_bipush (pc := 471) C (v := 52) dL_law_471 rfl ?_
        refine V_icmp_ge (pc := 473) (tgt := 480) C dL_law_473 (by decide) h (fun h => ?_) (fun h => ?_)
        · refine V_iconst (pc := 480) C (v := 2) dL_law_480 rfl ?_
          refine V_sub [3, 4, 5, 6, 7, 8, 9, 10, 11, 12, 13, 14, 15, 1, 0] rfl ?_
          exact k_L_law_481 hT hl C hr hfin (fun h => hk177 h) h
        · refine V_iconst (pc := 476) C (v := 1) dL_law_476 rfl ?_
          refine V_goto (pc := 477) (tgt := 481) C dL_law_477 (by decide) ?_
          refine V_sub [3, 4, 5, 6, 7, 8, 9, 10, 11, 12, 13, 14, 15, 1, 0] rfl ?_
          exact k_L_law_481 hT hl C hr hfin (fun h => hk177 h) h
      · refine V_iconst (pc := 465) C (v := 0) dL_law_465 rfl ?_
        refine V_goto (pc := 466) (tgt := 481) C dL_law_466 (by decide) ?_
        refine V_sub [3, 4, 5, 6, 7, 8, 9, 10, 11, 12, 13, 14, 15, 1, 0] rfl ?_
        exact k_L_law_481 hT hl C hr hfin (fun h => hk177 h) h
    · refine V_aload_n (pc := 344) C dL_law_344 rfl 4 rfl ?_
      refine V_aload_n (pc := 345) C dL_law_345 rfl 5 rfl ?_
      refine V_aload_n (pc := 346) C dL_law_346 rfl 6 rfl ?_
      refine V_aload (pc := 347) C dL_law_347 8 rfl ?_
      refine V_aload (pc := 349) C dL_law_349 9 rfl ?_
      refine V_aload (pc := 351) C dL_law_351 10 rfl ?_
      refine V_aload (pc := 353) C dL_law_353 11 rfl ?_
      refine V_aload (pc := 355) C dL_law_355 12 rfl ?_
      refine V_aload (pc := 357) C dL_law_357 13 rfl ?_
      refine V_aload (pc := 359) C dL_law_359 14 rfl ?_
      refine V_iload (pc := 361) C dL_law_361 2 rfl ?_
      refine V_bipush (pc := 363) C (v := 20) dL_law_363 rfl ?_
      refine V_icmp_ge (pc := 365) (tgt := 372) C dL_law_365 (by decide) h (fun h => ?_) (fun h => ?_)
      · refine V_iload (pc := 372) C dL_law_372 2 rfl ?_
        refine V_bipush (pc := 374) C (v := 20) dL_law_374 rfl ?_
        refine V_icmp_ne (pc := 376) (tgt := 383) C dL_law_376 (by decide) h (fun h => ?_) (fun h => ?_)
        · refine V_iload (pc := 383) C dL_law_383 2 rfl ?_
          refine V_bipush (pc := 385) C (v := 23) dL_law_385 rfl ?_
          refine V_icmp_ge (pc := 387) (tgt := 394) C dL_law_387 (by decide) h (fun h => ?_) (fun h => ?_)
          · refine V_iload (pc := 394) C dL_law_394 2 rfl ?_
            refine V_bipush (pc := 396) C (v := 31) dL_law_396 rfl ?_
            refine V_icmp_ge (pc := 398) (tgt := 405) C dL_law_398 (by decide) h (fun h => ?_) (fun h => ?_)
            · refine V_iload (pc := 405) C dL_law_405 2 rfl ?_
              refine V_bipush (pc := 407) C (v := 37) dL_law_407 rfl ?_
              refine V_icmp_ge (pc := 409) (tgt := 416) C dL_law_409 (by decide) h (fun h => ?_) (fun h => ?_)
              · refine V_iload (pc := 416) C dL_law_416 2 rfl ?_
                refine V_bipush (pc := 418) C (v := 41) dL_law_418 rfl ?_
                refine V_icmp_ge (pc := 420) (tgt := 427) C dL_law_420 (by decide) h (fun h => ?_) (fun h => ?_)
                · refine V_bipush (pc := 427) C (v := 6) dL_law_427 rfl ?_
                  refine V_sub [3, 4, 5, 6, 7, 8, 9, 10, 11, 12, 13, 14, 15, 1, 0] rfl ?_
                  exact k_L_law_429 hT hl C hr hfin (fun h => hk177 h) h
                · refine V_iconst (pc := 423) C (v := 5) dL_law_423 rfl ?_
                  refine V_goto (pc := 424) (tgt := 429) C dL_law_424 (by decide) ?_
                  refine V_sub [3, 4, 5, 6, 7, 8, 9, 10, 11, 12, 13, 14, 15, 1, 0] rfl ?_
                  exact k_L_law_429 hT hl C hr hfin (fun h => hk177 h) h
              · refine V_iconst (pc := 412) C (v := 4) dL_law_412 rfl ?_
                refine V_goto (pc := 413) (tgt := 429) C dL_law_413 (by decide) ?_
                refine V_sub [3, 4, 5, 6, 7, 8, 9, 10, 11, 12, 13, 14, 15, 1, 0] rfl ?_
                exact k_L_law_429 hT hl C hr hfin (fun h => hk177 h) h
            · refine V_iconst (pc := 401) C (v := 3) dL_law_401 rfl ?_
              refine V_goto (pc := 402) (tgt := 429) C dL_law_402 (by decide) ?_
              refine V_sub [3, 4, 5, 6, 7, 8, 9, 10, 11, 12, 13, 14, 15, 1, 0] rfl ?_
              exact k_L_law_429 hT hl C hr hfin (fun h => hk177 h) h
          · refine V_iconst (pc := 390) C (v := 2) dL_law_390 rfl ?_
            refine V_goto (pc := 391) (tgt := 429) C dL_law_391 (by decide) ?_
            refine V_sub [3, 4, 5, 6, 7, 8, 9, 10, 11, 12, 13, 14, 15, 1, 0] rfl ?_
            exact k_L_law_429 hT hl C hr hfin (fun h => hk177 h) h
        · refine V_iconst (pc := 379) C (v := 1) dL_law_379 rfl ?_
          refine V_goto (pc := 380) (tgt := 429) C dL_law_380 (by decide) ?_
          refine V_sub [3, 4, 5, 6, 7, 8, 9, 10, 11, 12, 13, 14, 15, 1, 0] rfl ?_
          exact k_L_law_429 hT hl C hr hfin (fun h => hk177 h) h
      · refine V_iconst (pc := 368) C (v := 0) dL_law_368 rfl ?_
        refine V_goto (pc := 369) (tgt := 429) C dL_law_369 (by decide) ?_
        refine V_sub [3, 4, 5, 6, 7, 8, 9, 10, 11, 12, 13, 14, 15, 1, 0] rfl ?_
        exact k_L_law_429 hT hl C hr hfin (fun h => hk177 h) h
  · refine V_aload_n (pc := 279) C dL_law_279 rfl 4 rfl ?_
    refine V_aload_n (pc := 280) C dL_law_280 rfl 5 rfl ?_
    refine V_aload_n (pc := 281) C dL_law_281 rfl 6 rfl ?_
    refine V_aload (pc := 282) C dL_law_282 7 rfl ?_
    refine V_aload (pc := 284) C dL_law_284 8 rfl ?_
    refine V_aload (pc := 286) C dL_law_286 14 rfl ?_
    refine V_iload (pc := 288) C dL_law_288 2 rfl ?_
    refine V_bipush (pc := 290) C (v := 6) dL_law_290 rfl ?_
    refine V_icmp_ge (pc := 292) (tgt := 300) C dL_law_292 (by decide) h (fun h => ?_) (fun h => ?_)
    · refine V_iload (pc := 300) C dL_law_300 2 rfl ?_
      refine V_bipush (pc := 302) C (v := 6) dL_law_302 rfl ?_
      refine V_icmp_ne (pc := 304) (tgt := 311) C dL_law_304 (by decide) h (fun h => ?_) (fun h => ?_)
      · refine V_iload (pc := 311) C dL_law_311 2 rfl ?_
        refine V_bipush (pc := 313) C (v := 13) dL_law_313 rfl ?_
        refine V_icmp_ge (pc := 315) (tgt := 323) C dL_law_315 (by decide) h (fun h => ?_) (fun h => ?_)
        · refine V_bipush (pc := 323) C (v := 7) dL_law_323 rfl ?_
          refine V_sub [3, 4, 5, 6, 7, 8, 9, 10, 11, 12, 13, 14, 15, 1, 0] rfl ?_
          exact k_L_law_325 hT hl C hr hfin (fun h => hk177 h) h
        · refine V_bipush (pc := 318) C (v := 6) dL_law_318 rfl ?_
          refine V_goto (pc := 320) (tgt := 325) C dL_law_320 (by decide) ?_
          refine V_sub [3, 4, 5, 6, 7, 8, 9, 10, 11, 12, 13, 14, 15, 1, 0] rfl ?_
          exact k_L_law_325 hT hl C hr hfin (fun h => hk177 h) h
      · refine V_iconst (pc := 307) C (v := 5) dL_law_307 rfl ?_
        refine V_goto (pc := 308) (tgt := 325) C dL_law_308 (by decide) ?_
        refine V_sub [3, 4, 5, 6, 7, 8, 9, 10, 11, 12, 13, 14, 15, 1, 0] rfl ?_
        exact k_L_law_325 hT hl C hr hfin (fun h => hk177 h) h
    · refine V_iload (pc := 295) C dL_law_295 2 rfl ?_
      refine V_goto (pc := 297) (tgt := 325) C dL_law_297 (by decide) ?_
      refine V_sub [3, 4, 5, 6, 7, 8, 9, 10, 11, 12, 13, 14, 15, 1, 0] rfl ?_
      exact k_L_law_325 hT hl C hr hfin (fun h => hk177 h) h
def w_L_law_177  (Q : Nat → Int32 → Sg → Prop) : Nat → Int32 → Int32 → Sg → Prop
  | 0, _, _, _ => False
  | n + 1, x12, x13, S => ((60 ≤ x13 → Q 0 x12 S) ∧ (¬ 60 ≤ x13 → ((x12 = 0 → Q 0 x12 S) ∧ (¬ x12 = 0 → ((2 ≤ x13 → ((4 ≤ x13 → ((8 ≤ x13 → ((11 ≤ x13 → (w_L_part (3 * x13) 64 S (fun k21 v20 S19 => (k21 = 0 → w_L_law_242 (fun x12 x13 S => w_L_law_177  Q n x12 x13 S) Q x13 v20 S19) ∧ (¬ k21 = 0 → False)))) ∧ (¬ 11 ≤ x13 → w_L_law_242 (fun x12 x13 S => w_L_law_177  Q n x12 x13 S) Q x13 7 S))) ∧ (¬ 8 ≤ x13 → w_L_law_242 (fun x12 x13 S => w_L_law_177  Q n x12 x13 S) Q x13 4 S))) ∧ (¬ 4 ≤ x13 → w_L_law_242 (fun x12 x13 S => w_L_law_177  Q n x12 x13 S) Q x13 2 S))) ∧ (¬ 2 ≤ x13 → w_L_law_242 (fun x12 x13 S => w_L_law_177  Q n x12 x13 S) Q x13 0 S))))))
theorem k_L_law_177 (hT : xT X = tb1) (hl : l.stackTraces = false) (C : Cn X k0 p l R s m meth c cL_law RL 17 16 708) (hr : meth.sig.returnType = (some .boolean)) {Q9 : State → Prop} (hfin : ∀ {x : Int32} {S : Sg} {lv : List (Nat × Value)}, Qa 0 x S → V X p l e R s m args below meth c 17 Q9 S0 ad0 S 539 lv [Value.int x])  : ∀ n {x12 : Int32} {x13 : Int32} {S : Sg}, w_L_law_177  Qa n x12 x13 S → V X p l e R s m args below meth c 17 (Q9) S0 ad0 S 177 [(0, Value.ref 63), (1, Value.ref (enc 0 0)), (2, Value.ref (enc 13 3)), (3, Value.ref (enc 13 4)), (4, Value.ref (enc 13 5)), (5, Value.ref (enc 13 6)), (6, Value.ref (enc 13 7)), (7, Value.ref (enc 13 8)), (8, Value.ref (enc 13 9)), (9, Value.ref (enc 13 10)), (10, Value.ref (enc 13 11)), (11, Value.ref (enc 13 12)), (12, Value.int x12), (13, Value.int x13)] [] := by
  intro n
  induction n with
  | zero => intro x12 x13 S h; exact h.elim
  | succ n ih =>
    intro x12 x13 S h
    refine V_iload (pc := 177) C dL_law_177 13 rfl ?_
    refine V_bipush (pc := 179) C (v := 60) dL_law_179 rfl ?_
    refine V_icmp_ge (pc := 181) (tgt := 537) C dL_law_181 (by decide) h (fun h => ?_) (fun h => ?_)
    · refine V_iload (pc := 537) C dL_law_537 12 rfl ?_
      exact hfin h
    · refine V_iload (pc := 184) C dL_law_184 12 rfl ?_
      refine V_if_eq (pc := 186) (tgt := 537) C dL_law_186 (by decide) h (fun h => ?_) (fun h => ?_)
      · refine V_iload (pc := 537) C dL_law_537 12 rfl ?_
        exact hfin h
      · refine V_iload (pc := 189) C dL_law_189 13 rfl ?_
        refine V_iconst (pc := 191) C (v := 2) dL_law_191 rfl ?_
        refine V_icmp_ge (pc := 192) (tgt := 199) C dL_law_192 (by decide) h (fun h => ?_) (fun h => ?_)
        · refine V_iload (pc := 199) C dL_law_199 13 rfl ?_
          refine V_iconst (pc := 201) C (v := 4) dL_law_201 rfl ?_
          refine V_icmp_ge (pc := 202) (tgt := 209) C dL_law_202 (by decide) h (fun h => ?_) (fun h => ?_)
          · refine V_iload (pc := 209) C dL_law_209 13 rfl ?_
            refine V_bipush (pc := 211) C (v := 8) dL_law_211 rfl ?_
            refine V_icmp_ge (pc := 213) (tgt := 220) C dL_law_213 (by decide) h (fun h => ?_) (fun h => ?_)
            · refine V_iload (pc := 220) C dL_law_220 13 rfl ?_
              refine V_bipush (pc := 222) C (v := 11) dL_law_222 rfl ?_
              refine V_icmp_ge (pc := 224) (tgt := 232) C dL_law_224 (by decide) h (fun h => ?_) (fun h => ?_)
              · refine V_aload_n (pc := 232) C dL_law_232 rfl 0 rfl ?_
                refine V_iconst (pc := 233) C (v := 3) dL_law_233 rfl ?_
                refine V_iload (pc := 234) C dL_law_234 13 rfl ?_
                refine V_imul (pc := 236) C dL_law_236 ?_
                refine V_bipush (pc := 237) C (v := 64) dL_law_237 rfl ?_
                refine V_callS (pc := 239) C (ct_L_part hT hl h) g115 g116 g117 g32 ⟨by decide, by decide, pl_L_part⟩ ⟨by decide, by decide⟩ (rest := []) rfl (le8 rfl) dL_law_239 (fun v20 S19 h => ?_) (fun k9 S9 hk h => (h.2 (by omega)).elim)
                replace h := h.1 rfl
                refine V_st (st' := [Value.int v20]) rfl ?_
                refine V_sub [0, 1, 2, 3, 4, 5, 6, 7, 8, 9, 10, 11, 13] rfl ?_
                exact k_L_law_242 hT hl C hr hfin (fun h => ih h) h
              · refine V_bipush (pc := 227) C (v := 7) dL_law_227 rfl ?_
                refine V_goto (pc := 229) (tgt := 242) C dL_law_229 (by decide) ?_
                refine V_sub [0, 1, 2, 3, 4, 5, 6, 7, 8, 9, 10, 11, 13] rfl ?_
                exact k_L_law_242 hT hl C hr hfin (fun h => ih h) h
            · refine V_iconst (pc := 216) C (v := 4) dL_law_216 rfl ?_
              refine V_goto (pc := 217) (tgt := 242) C dL_law_217 (by decide) ?_
              refine V_sub [0, 1, 2, 3, 4, 5, 6, 7, 8, 9, 10, 11, 13] rfl ?_
              exact k_L_law_242 hT hl C hr hfin (fun h => ih h) h
          · refine V_iconst (pc := 205) C (v := 2) dL_law_205 rfl ?_
            refine V_goto (pc := 206) (tgt := 242) C dL_law_206 (by decide) ?_
            refine V_sub [0, 1, 2, 3, 4, 5, 6, 7, 8, 9, 10, 11, 13] rfl ?_
            exact k_L_law_242 hT hl C hr hfin (fun h => ih h) h
        · refine V_iconst (pc := 195) C (v := 0) dL_law_195 rfl ?_
          refine V_goto (pc := 196) (tgt := 242) C dL_law_196 (by decide) ?_
          refine V_sub [0, 1, 2, 3, 4, 5, 6, 7, 8, 9, 10, 11, 13] rfl ?_
          exact k_L_law_242 hT hl C hr hfin (fun h => ih h) h
def w_L_law_172  (Q : Nat → Int32 → Sg → Prop) (y0 : Int32) (S : Sg) : Prop := ∃ n9, w_L_law_177  Q n9 y0 0 S
theorem k_L_law_172 (hT : xT X = tb1) (hl : l.stackTraces = false) (C : Cn X k0 p l R s m meth c cL_law RL 17 16 708) (hr : meth.sig.returnType = (some .boolean)) {Q9 : State → Prop} (hfin : ∀ {x : Int32} {S : Sg} {lv : List (Nat × Value)}, Qa 0 x S → V X p l e R s m args below meth c 17 Q9 S0 ad0 S 539 lv [Value.int x])  {y0 : Int32} {S : Sg} (h : w_L_law_172  Qa y0 S) : V X p l e R s m args below meth c 17 (Q9) S0 ad0 S 172 [(0, Value.ref 63), (1, Value.ref (enc 0 0)), (2, Value.ref (enc 13 3)), (3, Value.ref (enc 13 4)), (4, Value.ref (enc 13 5)), (5, Value.ref (enc 13 6)), (6, Value.ref (enc 13 7)), (7, Value.ref (enc 13 8)), (8, Value.ref (enc 13 9)), (9, Value.ref (enc 13 10)), (10, Value.ref (enc 13 11)), (11, Value.ref (enc 13 12))] [Value.int y0] := by
  refine V_istore (pc := 172) C dL_law_172 (by decide) rfl ?_
  refine V_iconst (pc := 174) C (v := 0) dL_law_174 rfl ?_
  refine V_istore (pc := 175) C dL_law_175 (by decide) rfl ?_
  refine V_sub [2, 3, 4, 5, 6, 7, 8, 9, 10, 11, 12, 13, 1, 0] rfl ?_
  obtain ⟨n9, h⟩ := h
  exact k_L_law_177 hT hl C hr hfin  n9 h
def w_L_law_171  (Q : Nat → Int32 → Sg → Prop)  (S : Sg) : Prop := w_L_law_172  Q 0 S
theorem k_L_law_171 (hT : xT X = tb1) (hl : l.stackTraces = false) (C : Cn X k0 p l R s m meth c cL_law RL 17 16 708) (hr : meth.sig.returnType = (some .boolean)) {Q9 : State → Prop} (hfin : ∀ {x : Int32} {S : Sg} {lv : List (Nat × Value)}, Qa 0 x S → V X p l e R s m args below meth c 17 Q9 S0 ad0 S 539 lv [Value.int x])   {S : Sg} (h : w_L_law_171  Qa  S) : V X p l e R s m args below meth c 17 (Q9) S0 ad0 S 171 [(0, Value.ref 63), (1, Value.ref (enc 0 0)), (2, Value.ref (enc 13 3)), (3, Value.ref (enc 13 4)), (4, Value.ref (enc 13 5)), (5, Value.ref (enc 13 6)), (6, Value.ref (enc 13 7)), (7, Value.ref (enc 13 8)), (8, Value.ref (enc 13 9)), (9, Value.ref (enc 13 10)), (10, Value.ref (enc 13 11)), (11, Value.ref (enc 13 12))] [] := by
  refine V_iconst (pc := 171) C (v := 0) dL_law_171 rfl ?_
  refine V_sub [0, 1, 2, 3, 4, 5, 6, 7, 8, 9, 10, 11] rfl ?_
  exact k_L_law_172 hT hl C hr hfin  h
def w_L_law_66  (Q : Nat → Int32 → Sg → Prop)  (S : Sg) : Prop := (vp_in 1 8 ∧ (∀ S22, S22 = su S 112 (nt 1) 10 → (w_L_does 0 7 1 0 0 0 S22 (fun k25 v24 S23 => (k25 = 0 → ((v24 = (-2000000) → (w_L_does 3 0 0 0 0 0 S23 (fun k28 v27 S26 => (k28 = 0 → ((v27 = (-3000000) → (w_L_does 8 0 0 0 0 0 S26 (fun k31 v30 S29 => (k31 = 0 → ((v30 = (-2000000) → (w_L_does 10 0 0 0 0 0 S29 (fun k34 v33 S32 => (k34 = 0 → ((v33 = (-3000000) → (w_L_does 18 0 0 0 0 0 S32 (fun k37 v36 S35 => (k37 = 0 → ((v36 = (-3000000) → (w_L_does 19 0 0 0 0 0 S35 (fun k40 v39 S38 => (k40 = 0 → ((v39 = (-3000000) → w_L_law_172  Q 1 S38) ∧ (¬ v39 = (-3000000) → w_L_law_171  Q  S38))) ∧ (¬ k40 = 0 → False)))) ∧ (¬ v36 = (-3000000) → w_L_law_171  Q  S35))) ∧ (¬ k37 = 0 → False)))) ∧ (¬ v33 = (-3000000) → w_L_law_171  Q  S32))) ∧ (¬ k34 = 0 → False)))) ∧ (¬ v30 = (-2000000) → w_L_law_171  Q  S29))) ∧ (¬ k31 = 0 → False)))) ∧ (¬ v27 = (-3000000) → w_L_law_171  Q  S26))) ∧ (¬ k28 = 0 → False)))) ∧ (¬ v24 = (-2000000) → w_L_law_171  Q  S23))) ∧ (¬ k25 = 0 → False)))))
theorem k_L_law_66 (hT : xT X = tb1) (hl : l.stackTraces = false) (C : Cn X k0 p l R s m meth c cL_law RL 17 16 708) (hr : meth.sig.returnType = (some .boolean)) {Q9 : State → Prop} (hfin : ∀ {x : Int32} {S : Sg} {lv : List (Nat × Value)}, Qa 0 x S → V X p l e R s m args below meth c 17 Q9 S0 ad0 S 539 lv [Value.int x])   {S : Sg} (h : w_L_law_66  Qa  S) : V X p l e R s m args below meth c 17 (Q9) S0 ad0 S 66 [(0, Value.ref 63), (1, Value.ref (enc 0 0)), (2, Value.ref (enc 13 3)), (3, Value.ref (enc 13 4)), (4, Value.ref (enc 13 5)), (5, Value.ref (enc 13 6)), (6, Value.ref (enc 13 7)), (7, Value.ref (enc 13 8)), (8, Value.ref (enc 13 9)), (9, Value.ref (enc 13 10)), (10, Value.ref (enc 13 11)), (11, Value.ref (enc 13 12))] [] := by
  refine V_aload (pc := 66) C dL_law_66 11 rfl ?_
  refine V_iconst (pc := 68) C (v := 1) dL_law_68 rfl ?_
  refine V_bipush (pc := 69) C (v := 10) dL_law_69 rfl ?_
  refine V_mst (pc := 71) C hT tb1_arr (n := 8) (c9 := 112) (by decide) rfl rfl rfl h dL_law_71 (fun h => V_nx fun S22 e9 => ?_)
  replace h := h S22 e9; clear e9
  refine V_aload_n (pc := 72) C dL_law_72 rfl 1 rfl ?_
  refine V_iconst (pc := 73) C (v := 0) dL_law_73 rfl ?_
  refine V_bipush (pc := 74) C (v := 7) dL_law_74 rfl ?_
  refine V_iconst (pc := 76) C (v := 1) dL_law_76 rfl ?_
  refine V_iconst (pc := 77) C (v := 0) dL_law_77 rfl ?_
  refine V_iconst (pc := 78) C (v := 0) dL_law_78 rfl ?_
  refine V_iconst (pc := 79) C (v := 0) dL_law_79 rfl ?_
  refine V_callH (pc := 80) C (ct_L_does hT hl h) g119 g120 g121 g32 ⟨by decide, by decide, pl_L_does⟩ ⟨by decide, by decide⟩ (rest := []) rfl (le8 rfl) dL_law_80 (fun v24 S23 h => ?_) (fun k9 S9 hk h => (h.2 (by omega)).elim)
  replace h := h.1 rfl
  refine V_st (st' := [Value.int v24]) rfl ?_
  refine V_ldc (pc := 83) C g780 dL_law_83 ?_
  refine V_icmp_ne (pc := 85) (tgt := 171) C dL_law_85 (by decide) h (fun h => ?_) (fun h => ?_)
  · refine V_sub [0, 1, 2, 3, 4, 5, 6, 7, 8, 9, 10, 11] rfl ?_
    exact k_L_law_171 hT hl C hr hfin  h
  · refine V_aload_n (pc := 88) C dL_law_88 rfl 1 rfl ?_
    refine V_iconst (pc := 89) C (v := 3) dL_law_89 rfl ?_
    refine V_iconst (pc := 90) C (v := 0) dL_law_90 rfl ?_
    refine V_iconst (pc := 91) C (v := 0) dL_law_91 rfl ?_
    refine V_iconst (pc := 92) C (v := 0) dL_law_92 rfl ?_
    refine V_iconst (pc := 93) C (v := 0) dL_law_93 rfl ?_
    refine V_iconst (pc := 94) C (v := 0) dL_law_94 rfl ?_
    refine V_callH (pc := 95) C (ct_L_does hT hl h) g119 g120 g121 g32 ⟨by decide, by decide, pl_L_does⟩ ⟨by decide, by decide⟩ (rest := []) rfl (le8 rfl) dL_law_95 (fun v27 S26 h => ?_) (fun k9 S9 hk h => (h.2 (by omega)).elim)
    replace h := h.1 rfl
    refine V_st (st' := [Value.int v27]) rfl ?_
    refine V_ldc (pc := 98) C g779 dL_law_98 ?_
    refine V_icmp_ne (pc := 100) (tgt := 171) C dL_law_100 (by decide) h (fun h => ?_) (fun h => ?_)
    · refine V_sub [0, 1, 2, 3, 4, 5, 6, 7, 8, 9, 10, 11] rfl ?_
      exact k_L_law_171 hT hl C hr hfin  h
    · refine V_aload_n (pc := 103) C dL_law_103 rfl 1 rfl ?_
      refine V_bipush (pc := 104) C (v := 8) dL_law_104 rfl ?_
      refine V_iconst (pc := 106) C (v := 0) dL_law_106 rfl ?_
      refine V_iconst (pc := 107) C (v := 0) dL_law_107 rfl ?_
      refine V_iconst (pc := 108) C (v := 0) dL_law_108 rfl ?_
      refine V_iconst (pc := 109) C (v := 0) dL_law_109 rfl ?_
      refine V_iconst (pc := 110) C (v := 0) dL_law_110 rfl ?_
      refine V_callH (pc := 111) C (ct_L_does hT hl h) g119 g120 g121 g32 ⟨by decide, by decide, pl_L_does⟩ ⟨by decide, by decide⟩ (rest := []) rfl (le8 rfl) dL_law_111 (fun v30 S29 h => ?_) (fun k9 S9 hk h => (h.2 (by omega)).elim)
      replace h := h.1 rfl
      refine V_st (st' := [Value.int v30]) rfl ?_
      refine V_ldc (pc := 114) C g780 dL_law_114 ?_
      refine V_icmp_ne (pc := 116) (tgt := 171) C dL_law_116 (by decide) h (fun h => ?_) (fun h => ?_)
      · refine V_sub [0, 1, 2, 3, 4, 5, 6, 7, 8, 9, 10, 11] rfl ?_
        exact k_L_law_171 hT hl C hr hfin  h
      · refine V_aload_n (pc := 119) C dL_law_119 rfl 1 rfl ?_
        refine V_bipush (pc := 120) C (v := 10) dL_law_120 rfl ?_
        refine V_iconst (pc := 122) C (v := 0) dL_law_122 rfl ?_
        refine V_iconst (pc := 123) C (v := 0) dL_law_123 rfl ?_
        refine V_iconst (pc := 124) C (v := 0) dL_law_124 rfl ?_
        refine V_iconst (pc := 125) C (v := 0) dL_law_125 rfl ?_
        refine V_iconst (pc := 126) C (v := 0) dL_law_126 rfl ?_
        refine V_callH (pc := 127) C (ct_L_does hT hl h) g119 g120 g121 g32 ⟨by decide, by decide, pl_L_does⟩ ⟨by decide, by decide⟩ (rest := []) rfl (le8 rfl) dL_law_127 (fun v33 S32 h => ?_) (fun k9 S9 hk h => (h.2 (by omega)).elim)
        replace h := h.1 rfl
        refine V_st (st' := [Value.int v33]) rfl ?_
        refine V_ldc (pc := 130) C g779 dL_law_130 ?_
        refine V_icmp_ne (pc := 132) (tgt := 171) C dL_law_132 (by decide) h (fun h => ?_) (fun h => ?_)
        · refine V_sub [0, 1, 2, 3, 4, 5, 6, 7, 8, 9, 10, 11] rfl ?_
          exact k_L_law_171 hT hl C hr hfin  h
        · refine V_aload_n (pc := 135) C dL_law_135 rfl 1 rfl ?_
          refine V_bipush (pc := 136) C (v := 18) dL_law_136 rfl ?_
          refine V_iconst (pc := 138) C (v := 0) dL_law_138 rfl ?_
          refine V_iconst (pc := 139) C (v := 0) dL_law_139 rfl ?_
          refine V_iconst (pc := 140) C (v := 0) dL_law_140 rfl ?_
          refine V_iconst (pc := 141) C (v := 0) dL_law_141 rfl ?_
          refine V_iconst (pc := 142) C (v := 0) dL_law_142 rfl ?_
          refine V_callH (pc := 143) C (ct_L_does hT hl h) g119 g120 g121 g32 ⟨by decide, by decide, pl_L_does⟩ ⟨by decide, by decide⟩ (rest := []) rfl (le8 rfl) dL_law_143 (fun v36 S35 h => ?_) (fun k9 S9 hk h => (h.2 (by omega)).elim)
          replace h := h.1 rfl
          refine V_st (st' := [Value.int v36]) rfl ?_
          refine V_ldc (pc := 146) C g779 dL_law_146 ?_
          refine V_icmp_ne (pc := 148) (tgt := 171) C dL_law_148 (by decide) h (fun h => ?_) (fun h => ?_)
          · refine V_sub [0, 1, 2, 3, 4, 5, 6, 7, 8, 9, 10, 11] rfl ?_
            exact k_L_law_171 hT hl C hr hfin  h
          · refine V_aload_n (pc := 151) C dL_law_151 rfl 1 rfl ?_
            refine V_bipush (pc := 152) C (v := 19) dL_law_152 rfl ?_
            refine V_iconst (pc := 154) C (v := 0) dL_law_154 rfl ?_
            refine V_iconst (pc := 155) C (v := 0) dL_law_155 rfl ?_
            refine V_iconst (pc := 156) C (v := 0) dL_law_156 rfl ?_
            refine V_iconst (pc := 157) C (v := 0) dL_law_157 rfl ?_
            refine V_iconst (pc := 158) C (v := 0) dL_law_158 rfl ?_
            refine V_callH (pc := 159) C (ct_L_does hT hl h) g119 g120 g121 g32 ⟨by decide, by decide, pl_L_does⟩ ⟨by decide, by decide⟩ (rest := []) rfl (le8 rfl) dL_law_159 (fun v39 S38 h => ?_) (fun k9 S9 hk h => (h.2 (by omega)).elim)
            replace h := h.1 rfl
            refine V_st (st' := [Value.int v39]) rfl ?_
            refine V_ldc (pc := 162) C g779 dL_law_162 ?_
            refine V_icmp_ne (pc := 164) (tgt := 171) C dL_law_164 (by decide) h (fun h => ?_) (fun h => ?_)
            · refine V_sub [0, 1, 2, 3, 4, 5, 6, 7, 8, 9, 10, 11] rfl ?_
              exact k_L_law_171 hT hl C hr hfin  h
            · refine V_iconst (pc := 167) C (v := 1) dL_law_167 rfl ?_
              refine V_goto (pc := 168) (tgt := 172) C dL_law_168 (by decide) ?_
              refine V_sub [0, 1, 2, 3, 4, 5, 6, 7, 8, 9, 10, 11] rfl ?_
              exact k_L_law_172 hT hl C hr hfin  h
end LB85
