section LB82
variable {X : Cx} {p : Program} {l : Launch} {e : Env} {R : Room} {s : State} {m : MethodId} {args : Array Value} {below : List Frame} {meth : Method} {c : Code} {S0 : Sg} {ad0 : Nat → Nat} {Qa : Nat → Int32 → Sg → Prop}
theorem pl_L_isTold : (parseMethodDescriptor yL_isTold.desc).map (fun d => d.parameters.length) = some 9 := by decide +kernel
def w_L_isTold_1462  (Q : Nat → Int32 → Sg → Prop) (y0 : Int32) (y1 : Int32) (S : Sg) : Prop := ((y1 = y0 → Q 0 1 S) ∧ (¬ y1 = y0 → Q 0 0 S))
theorem k_L_isTold_1462 (hT : xT X = tb1) (hl : l.stackTraces = false) (C : Cn X k0 p l R s m meth c cL_isTold RL 16 14 321) (hr : meth.sig.returnType = (some .boolean)) (hnm : meth.name = yL_isTold.name) (htab : (∀ x ∈ c.exceptionTable.toList, False))  {y0 : Int32} {y1 : Int32} {S : Sg} (h : w_L_isTold_1462  Qa y0 y1 S) : V X p l e R s m args below meth c 16 (QM X below args s S0 ad0 rvI Qa) S0 ad0 S 1462 [] [Value.int y0, Value.int y1] := by
  refine V_icmp_ne (pc := 1462) (tgt := 1469) C dL_isTold_1462 (by decide) h (fun h => ?_) (fun h => ?_)
  · refine V_iconst (pc := 1469) C (v := 0) dL_isTold_1469 rfl ?_
    exact V_zret (pc := 1470) C hr (by decide) rfl h dL_isTold_1470
  · refine V_iconst (pc := 1465) C (v := 1) dL_isTold_1465 rfl ?_
    refine V_goto (pc := 1466) (tgt := 1470) C dL_isTold_1466 (by decide) ?_
    exact V_zret (pc := 1470) C hr (by decide) rfl h dL_isTold_1470
def w_L_isTold_1426  (Q : Nat → Int32 → Sg → Prop) (x9 : Int32) (x10 : Int32) (x11 : Int32) (x12 : Int32) (x13 : Int32) (x14 : Int32) (S : Sg) : Prop := (w_L_does 17 x9 x10 x12 0 0 S (fun k3 v2 S1 => (k3 = 0 → ((x11 = 0 → w_L_isTold_1462  Q (-3000000) v2 S1) ∧ (¬ x11 = 0 → ((x13 = 0 → w_L_isTold_1462  Q (-2000000) v2 S1) ∧ (¬ x13 = 0 → w_L_isTold_1462  Q x14 v2 S1))))) ∧ (¬ k3 = 0 → Q k3 0 S1)))
theorem k_L_isTold_1426 (hT : xT X = tb1) (hl : l.stackTraces = false) (C : Cn X k0 p l R s m meth c cL_isTold RL 16 14 321) (hr : meth.sig.returnType = (some .boolean)) (hnm : meth.name = yL_isTold.name) (htab : (∀ x ∈ c.exceptionTable.toList, False))  {x9 : Int32} {x10 : Int32} {x11 : Int32} {x12 : Int32} {x13 : Int32} {x14 : Int32} {S : Sg} (h : w_L_isTold_1426  Qa x9 x10 x11 x12 x13 x14 S) : V X p l e R s m args below meth c 16 (QM X below args s S0 ad0 rvI Qa) S0 ad0 S 1426 [(0, Value.ref (enc 0 0)), (9, Value.int x9), (10, Value.int x10), (11, Value.int x11), (12, Value.int x12), (13, Value.int x13), (14, Value.int x14)] [] := by
  refine V_aload_n (pc := 1426) C dL_isTold_1426 rfl 0 rfl ?_
  refine V_bipush (pc := 1427) C (v := 17) dL_isTold_1427 rfl ?_
  refine V_iload (pc := 1429) C dL_isTold_1429 1 rfl ?_
  refine V_iload (pc := 1431) C dL_isTold_1431 2 rfl ?_
  refine V_iload (pc := 1433) C dL_isTold_1433 4 rfl ?_
  refine V_iconst (pc := 1435) C (v := 0) dL_isTold_1435 rfl ?_
  refine V_iconst (pc := 1436) C (v := 0) dL_isTold_1436 rfl ?_
  refine V_callH (pc := 1437) C (ct_L_does hT hl h) g119 g120 g121 g32 ⟨by decide, by decide, pl_L_does⟩ ⟨by decide, by decide⟩ (rest := []) rfl (le8 rfl) dL_isTold_1437 (fun v2 S1 h => ?_) (fun k9 S9 hk h => VX_out C htab hk (h.2 (by omega)))
  replace h := h.1 rfl
  refine V_st (st' := [Value.int v2]) rfl ?_
  refine V_iload (pc := 1440) C dL_isTold_1440 3 rfl ?_
  refine V_if_ne (pc := 1442) (tgt := 1450) C dL_isTold_1442 (by decide) h (fun h => ?_) (fun h => ?_)
  · refine V_iload (pc := 1450) C dL_isTold_1450 5 rfl ?_
    refine V_if_eq (pc := 1452) (tgt := 1460) C dL_isTold_1452 (by decide) h (fun h => ?_) (fun h => ?_)
    · refine V_ldc (pc := 1460) C g780 dL_isTold_1460 ?_
      refine V_sub [] rfl ?_
      exact k_L_isTold_1462 hT hl C hr hnm htab  h
    · refine V_iload (pc := 1455) C dL_isTold_1455 6 rfl ?_
      refine V_goto (pc := 1457) (tgt := 1462) C dL_isTold_1457 (by decide) ?_
      refine V_sub [] rfl ?_
      exact k_L_isTold_1462 hT hl C hr hnm htab  h
  · refine V_ldc (pc := 1445) C g779 dL_isTold_1445 ?_
    refine V_goto (pc := 1447) (tgt := 1462) C dL_isTold_1447 (by decide) ?_
    refine V_sub [] rfl ?_
    exact k_L_isTold_1462 hT hl C hr hnm htab  h
def w_L_isTold_1418 (k1359 : Int32 → Int32 → Int32 → Int32 → Int32 → Int32 → Int32 → Sg → Prop) (Q : Nat → Int32 → Sg → Prop) (x9 : Int32) (x10 : Int32) (x11 : Int32) (x12 : Int32) (x13 : Int32) (x15 : Int32) (y0 : Int32) (S : Sg) : Prop := k1359 x9 x10 x11 x12 x13 y0 (x15 + 1) S
theorem k_L_isTold_1418 (hT : xT X = tb1) (hl : l.stackTraces = false) (C : Cn X k0 p l R s m meth c cL_isTold RL 16 14 321) (hr : meth.sig.returnType = (some .boolean)) (hnm : meth.name = yL_isTold.name) (htab : (∀ x ∈ c.exceptionTable.toList, False)) {k1359 : Int32 → Int32 → Int32 → Int32 → Int32 → Int32 → Int32 → Sg → Prop} (hk1359 : ∀ {x9 : Int32} {x10 : Int32} {x11 : Int32} {x12 : Int32} {x13 : Int32} {x14 : Int32} {x15 : Int32} {S : Sg}, k1359 x9 x10 x11 x12 x13 x14 x15 S → V X p l e R s m args below meth c 16 (QM X below args s S0 ad0 rvI Qa) S0 ad0 S 1359 [(0, Value.ref (enc 0 0)), (1, Value.ref (enc 13 3)), (2, Value.ref (enc 13 4)), (3, Value.ref (enc 13 5)), (4, Value.ref (enc 13 6)), (5, Value.ref (enc 13 12)), (9, Value.int x9), (10, Value.int x10), (11, Value.int x11), (12, Value.int x12), (13, Value.int x13), (14, Value.int x14), (15, Value.int x15)] []) {x9 : Int32} {x10 : Int32} {x11 : Int32} {x12 : Int32} {x13 : Int32} {x15 : Int32} {y0 : Int32} {S : Sg} (h : w_L_isTold_1418 k1359 Qa x9 x10 x11 x12 x13 x15 y0 S) : V X p l e R s m args below meth c 16 (QM X below args s S0 ad0 rvI Qa) S0 ad0 S 1418 [(0, Value.ref (enc 0 0)), (1, Value.ref (enc 13 3)), (2, Value.ref (enc 13 4)), (3, Value.ref (enc 13 5)), (4, Value.ref (enc 13 6)), (5, Value.ref (enc 13 12)), (9, Value.int x9), (10, Value.int x10), (11, Value.int x11), (12, Value.int x12), (13, Value.int x13), (15, Value.int x15)] [Value.int y0] := by
  refine V_istore (pc := 1418) C dL_isTold_1418 (by decide) rfl ?_
  refine V_iinc (pc := 1420) C (a := 12) (v := x15 + 1) dL_isTold_1420 rfl rfl (by decide) rfl ?_
  refine V_goto (pc := 1423) (tgt := 1359) C dL_isTold_1423 (by decide) ?_
  refine V_sub [2, 3, 4, 5, 6, 7, 8, 9, 10, 11, 12, 1, 0] rfl ?_
  exact hk1359 h
def w_L_isTold_1359  (Q : Nat → Int32 → Sg → Prop) : Nat → Int32 → Int32 → Int32 → Int32 → Int32 → Int32 → Int32 → Sg → Prop
  | 0, _, _, _, _, _, _, _, _ => False
  | n + 1, x9, x10, x11, x12, x13, x14, x15, S => (((x12 + 10080) < x15 → w_L_isTold_1426  Q x9 x10 x11 x12 x13 x14 S) ∧ (¬ (x12 + 10080) < x15 → ((100001 ≤ x15 → w_L_isTold_1426  Q x9 x10 x11 x12 x13 x14 S) ∧ (¬ 100001 ≤ x15 → ((0 ≤ x14 → w_L_isTold_1426  Q x9 x10 x11 x12 x13 x14 S) ∧ (¬ 0 ≤ x14 → ((x11 = 0 → w_L_isTold_1426  Q x9 x10 x11 x12 x13 x14 S) ∧ (¬ x11 = 0 → ((x13 = 0 → w_L_isTold_1426  Q x9 x10 x11 x12 x13 x14 S) ∧ (¬ x13 = 0 → (w_L_fits x9 x10 x15 S (fun k6 v5 S4 => (k6 = 0 → ((v5 = 0 → w_L_isTold_1418 (fun x9 x10 x11 x12 x13 x14 x15 S => w_L_isTold_1359  Q n x9 x10 x11 x12 x13 x14 x15 S) Q x9 x10 x11 x12 x13 x15 x15 S4) ∧ (¬ v5 = 0 → w_L_isTold_1418 (fun x9 x10 x11 x12 x13 x14 x15 S => w_L_isTold_1359  Q n x9 x10 x11 x12 x13 x14 x15 S) Q x9 x10 x11 x12 x13 x15 x14 S4))) ∧ (¬ k6 = 0 → Q k6 0 S4)))))))))))))
theorem k_L_isTold_1359 (hT : xT X = tb1) (hl : l.stackTraces = false) (C : Cn X k0 p l R s m meth c cL_isTold RL 16 14 321) (hr : meth.sig.returnType = (some .boolean)) (hnm : meth.name = yL_isTold.name) (htab : (∀ x ∈ c.exceptionTable.toList, False))  : ∀ n {x9 : Int32} {x10 : Int32} {x11 : Int32} {x12 : Int32} {x13 : Int32} {x14 : Int32} {x15 : Int32} {S : Sg}, w_L_isTold_1359  Qa n x9 x10 x11 x12 x13 x14 x15 S → V X p l e R s m args below meth c 16 (QM X below args s S0 ad0 rvI Qa) S0 ad0 S 1359 [(0, Value.ref (enc 0 0)), (1, Value.ref (enc 13 3)), (2, Value.ref (enc 13 4)), (3, Value.ref (enc 13 5)), (4, Value.ref (enc 13 6)), (5, Value.ref (enc 13 12)), (9, Value.int x9), (10, Value.int x10), (11, Value.int x11), (12, Value.int x12), (13, Value.int x13), (14, Value.int x14), (15, Value.int x15)] [] := by
  intro n
  induction n with
  | zero => intro x9 x10 x11 x12 x13 x14 x15 S h; exact h.elim
  | succ n ih =>
    intro x9 x10 x11 x12 x13 x14 x15 S h
    refine V_iload (pc := 1359) C dL_isTold_1359 12 rfl ?_
    refine V_iload (pc := 1361) C dL_isTold_1361 9 rfl ?_
    refine V_sipush (pc := 1363) C (v := 10080) dL_isTold_1363 rfl ?_
    refine V_iadd (pc := 1366) C dL_isTold_1366 ?_
    refine V_icmp_gt (pc := 1367) (tgt := 1426) C dL_isTold_1367 (by decide) h (fun h => ?_) (fun h => ?_)
    · refine V_sub [0, 6, 7, 8, 9, 10, 11] rfl ?_
      exact k_L_isTold_1426 hT hl C hr hnm htab  h
    · refine V_iload (pc := 1370) C dL_isTold_1370 12 rfl ?_
      refine V_ldc (pc := 1372) C g883 dL_isTold_1372 ?_
      refine V_icmp_ge (pc := 1374) (tgt := 1426) C dL_isTold_1374 (by decide) h (fun h => ?_) (fun h => ?_)
      · refine V_sub [0, 6, 7, 8, 9, 10, 11] rfl ?_
        exact k_L_isTold_1426 hT hl C hr hnm htab  h
      · refine V_iload (pc := 1377) C dL_isTold_1377 11 rfl ?_
        refine V_if_ge (pc := 1379) (tgt := 1426) C dL_isTold_1379 (by decide) h (fun h => ?_) (fun h => ?_)
        · refine V_sub [0, 6, 7, 8, 9, 10, 11] rfl ?_
          exact k_L_isTold_1426 hT hl C hr hnm htab  h
        · refine V_iload (pc := 1382) C dL_isTold_1382 8 rfl ?_
          refine V_if_eq (pc := 1384) (tgt := 1426) C dL_isTold_1384 (by decide) h (fun h => ?_) (fun h => ?_)
          · refine V_sub [0, 6, 7, 8, 9, 10, 11] rfl ?_
            exact k_L_isTold_1426 hT hl C hr hnm htab  h
          · refine V_iload (pc := 1387) C dL_isTold_1387 10 rfl ?_
            refine V_if_eq (pc := 1389) (tgt := 1426) C dL_isTold_1389 (by decide) h (fun h => ?_) (fun h => ?_)
            · refine V_sub [0, 6, 7, 8, 9, 10, 11] rfl ?_
              exact k_L_isTold_1426 hT hl C hr hnm htab  h
            · refine V_aload_n (pc := 1392) C dL_isTold_1392 rfl 1 rfl ?_
              refine V_aload_n (pc := 1393) C dL_isTold_1393 rfl 2 rfl ?_
              refine V_aload_n (pc := 1394) C dL_isTold_1394 rfl 3 rfl ?_
              refine V_aload (pc := 1395) C dL_isTold_1395 4 rfl ?_
              refine V_aload (pc := 1397) C dL_isTold_1397 5 rfl ?_
              refine V_iload (pc := 1399) C dL_isTold_1399 6 rfl ?_
              refine V_iload (pc := 1401) C dL_isTold_1401 7 rfl ?_
              refine V_iload (pc := 1403) C dL_isTold_1403 12 rfl ?_
              refine V_callS (pc := 1405) C (ct_L_fits hT hl h) g805 g806 g807 g32 ⟨by decide, by decide, pl_L_fits⟩ ⟨by decide, by decide⟩ (rest := []) rfl (le8 rfl) dL_isTold_1405 (fun v5 S4 h => ?_) (fun k9 S9 hk h => VX_out C htab hk (h.2 (by omega)))
              replace h := h.1 rfl
              refine V_st (st' := [Value.int v5]) rfl ?_
              refine V_if_ne (pc := 1408) (tgt := 1416) C dL_isTold_1408 (by decide) h (fun h => ?_) (fun h => ?_)
              · refine V_iload (pc := 1416) C dL_isTold_1416 11 rfl ?_
                refine V_sub [0, 1, 2, 3, 4, 5, 6, 7, 8, 9, 10, 12] rfl ?_
                exact k_L_isTold_1418 hT hl C hr hnm htab (fun h => ih h) h
              · refine V_iload (pc := 1411) C dL_isTold_1411 12 rfl ?_
                refine V_goto (pc := 1413) (tgt := 1418) C dL_isTold_1413 (by decide) ?_
                refine V_sub [0, 1, 2, 3, 4, 5, 6, 7, 8, 9, 10, 12] rfl ?_
                exact k_L_isTold_1418 hT hl C hr hnm htab (fun h => ih h) h
def w_L_isTold_1343  (Q : Nat → Int32 → Sg → Prop) (y0 : Int32) (y1 : Int32) (S : Sg) : Prop := ((y1 = y0 → Q 0 1 S) ∧ (¬ y1 = y0 → Q 0 0 S))
theorem k_L_isTold_1343 (hT : xT X = tb1) (hl : l.stackTraces = false) (C : Cn X k0 p l R s m meth c cL_isTold RL 16 14 321) (hr : meth.sig.returnType = (some .boolean)) (hnm : meth.name = yL_isTold.name) (htab : (∀ x ∈ c.exceptionTable.toList, False))  {y0 : Int32} {y1 : Int32} {S : Sg} (h : w_L_isTold_1343  Qa y0 y1 S) : V X p l e R s m args below meth c 16 (QM X below args s S0 ad0 rvI Qa) S0 ad0 S 1343 [] [Value.int y0, Value.int y1] := by
  refine V_icmp_ne (pc := 1343) (tgt := 1350) C dL_isTold_1343 (by decide) h (fun h => ?_) (fun h => ?_)
  · refine V_iconst (pc := 1350) C (v := 0) dL_isTold_1350 rfl ?_
    exact V_zret (pc := 1351) C hr (by decide) rfl h dL_isTold_1351
  · refine V_iconst (pc := 1346) C (v := 1) dL_isTold_1346 rfl ?_
    refine V_goto (pc := 1347) (tgt := 1351) C dL_isTold_1347 (by decide) ?_
    exact V_zret (pc := 1351) C hr (by decide) rfl h dL_isTold_1351
def w_L_isTold_1294  (Q : Nat → Int32 → Sg → Prop) (x9 : Int32) (x10 : Int32) (x11 : Int32) (x12 : Int32) (x13 : Int32) (x14 : Int32) (S : Sg) : Prop := (w_L_does 5 x9 x10 x12 0 0 S (fun k9 v8 S7 => (k9 = 0 → ((x11 = 0 → w_L_isTold_1343  Q (-3000000) v8 S7) ∧ (¬ x11 = 0 → ((x13 = 0 → w_L_isTold_1343  Q (-2000000) v8 S7) ∧ (¬ x13 = 0 → ((x14 = 0 → w_L_isTold_1343  Q (-1000000) v8 S7) ∧ (¬ x14 = 0 → (vp_in 5 8 ∧ w_L_isTold_1343  Q ((S7.1 112 (nt 5)) - 1) v8 S7)))))))) ∧ (¬ k9 = 0 → Q k9 0 S7)))
theorem k_L_isTold_1294 (hT : xT X = tb1) (hl : l.stackTraces = false) (C : Cn X k0 p l R s m meth c cL_isTold RL 16 14 321) (hr : meth.sig.returnType = (some .boolean)) (hnm : meth.name = yL_isTold.name) (htab : (∀ x ∈ c.exceptionTable.toList, False))  {x9 : Int32} {x10 : Int32} {x11 : Int32} {x12 : Int32} {x13 : Int32} {x14 : Int32} {S : Sg} (h : w_L_isTold_1294  Qa x9 x10 x11 x12 x13 x14 S) : V X p l e R s m args below meth c 16 (QM X below args s S0 ad0 rvI Qa) S0 ad0 S 1294 [(0, Value.ref (enc 0 0)), (5, Value.ref (enc 13 12)), (9, Value.int x9), (10, Value.int x10), (11, Value.int x11), (12, Value.int x12), (13, Value.int x13), (14, Value.int x14)] [] := by
  refine V_aload_n (pc := 1294) C dL_isTold_1294 rfl 0 rfl ?_
  refine V_iconst (pc := 1295) C (v := 5) dL_isTold_1295 rfl ?_
  refine V_iload (pc := 1296) C dL_isTold_1296 2 rfl ?_
  refine V_iload (pc := 1298) C dL_isTold_1298 3 rfl ?_
  refine V_iload (pc := 1300) C dL_isTold_1300 5 rfl ?_
  refine V_iconst (pc := 1302) C (v := 0) dL_isTold_1302 rfl ?_
  refine V_iconst (pc := 1303) C (v := 0) dL_isTold_1303 rfl ?_
  refine V_callH (pc := 1304) C (ct_L_does hT hl h) g119 g120 g121 g32 ⟨by decide, by decide, pl_L_does⟩ ⟨by decide, by decide⟩ (rest := []) rfl (le8 rfl) dL_isTold_1304 (fun v8 S7 h => ?_) (fun k9 S9 hk h => VX_out C htab hk (h.2 (by omega)))
  replace h := h.1 rfl
  refine V_st (st' := [Value.int v8]) rfl ?_
  refine V_iload (pc := 1307) C dL_isTold_1307 4 rfl ?_
  refine V_if_ne (pc := 1309) (tgt := 1317) C dL_isTold_1309 (by decide) h (fun h => ?_) (fun h => ?_)
  · refine V_iload (pc := 1317) C dL_isTold_1317 6 rfl ?_
    refine V_if_ne (pc := 1319) (tgt := 1327) C dL_isTold_1319 (by decide) h (fun h => ?_) (fun h => ?_)
    · refine V_iload (pc := 1327) C dL_isTold_1327 7 rfl ?_
      refine V_if_eq (pc := 1329) (tgt := 1341) C dL_isTold_1329 (by decide) h (fun h => ?_) (fun h => ?_)
      · refine V_ldc (pc := 1341) C g781 dL_isTold_1341 ?_
        refine V_sub [] rfl ?_
        exact k_L_isTold_1343 hT hl C hr hnm htab  h
      · refine V_aload (pc := 1332) C dL_isTold_1332 1 rfl ?_
        refine V_iconst (pc := 1334) C (v := 5) dL_isTold_1334 rfl ?_
        refine V_mld (pc := 1335) C hT tb1_arr (n := 8) (c9 := 112) rfl rfl rfl h dL_isTold_1335 (fun h => ?_)
        refine V_iconst (pc := 1336) C (v := 1) dL_isTold_1336 rfl ?_
        refine V_isub (pc := 1337) C dL_isTold_1337 ?_
        refine V_goto (pc := 1338) (tgt := 1343) C dL_isTold_1338 (by decide) ?_
        refine V_sub [] rfl ?_
        exact k_L_isTold_1343 hT hl C hr hnm htab  h
    · refine V_ldc (pc := 1322) C g780 dL_isTold_1322 ?_
      refine V_goto (pc := 1324) (tgt := 1343) C dL_isTold_1324 (by decide) ?_
      refine V_sub [] rfl ?_
      exact k_L_isTold_1343 hT hl C hr hnm htab  h
  · refine V_ldc (pc := 1312) C g779 dL_isTold_1312 ?_
    refine V_goto (pc := 1314) (tgt := 1343) C dL_isTold_1314 (by decide) ?_
    refine V_sub [] rfl ?_
    exact k_L_isTold_1343 hT hl C hr hnm htab  h
def w_L_isTold_1254  (Q : Nat → Int32 → Sg → Prop) (x9 : Int32) (x10 : Int32) (x11 : Int32) (x12 : Int32) (x13 : Int32) (y0 : Int32) (S : Sg) : Prop := ((y0 = 0 → w_L_isTold_1294  Q x9 x10 x11 x12 x13 y0 S) ∧ (¬ y0 = 0 → (vp_in 5 8 ∧ (vp_in (S.1 112 (nt 5)) 11 ∧ (∀ S10, S10 = su S 106 (nt (S.1 112 (nt 5))) (x9 + (4 * x10)) → (vp_in 5 8 ∧ (vp_in (5 + (S10.1 112 (nt 5))) 11 ∧ (∀ S11, S11 = su S10 106 (nt (5 + (S10.1 112 (nt 5)))) x12 → (vp_in 5 8 ∧ (vp_in 5 8 ∧ (∀ S12, S12 = su S11 112 (nt 5) ((S11.1 112 (nt 5)) + 1) → w_L_isTold_1294  Q x9 x10 x11 x12 x13 y0 S12)))))))))))
theorem k_L_isTold_1254 (hT : xT X = tb1) (hl : l.stackTraces = false) (C : Cn X k0 p l R s m meth c cL_isTold RL 16 14 321) (hr : meth.sig.returnType = (some .boolean)) (hnm : meth.name = yL_isTold.name) (htab : (∀ x ∈ c.exceptionTable.toList, False))  {x9 : Int32} {x10 : Int32} {x11 : Int32} {x12 : Int32} {x13 : Int32} {y0 : Int32} {S : Sg} (h : w_L_isTold_1254  Qa x9 x10 x11 x12 x13 y0 S) : V X p l e R s m args below meth c 16 (QM X below args s S0 ad0 rvI Qa) S0 ad0 S 1254 [(0, Value.ref (enc 0 0)), (4, Value.ref (enc 13 6)), (5, Value.ref (enc 13 12)), (9, Value.int x9), (10, Value.int x10), (11, Value.int x11), (12, Value.int x12), (13, Value.int x13)] [Value.int y0] := by
  refine V_istore (pc := 1254) C dL_isTold_1254 (by decide) rfl ?_
  refine V_iload (pc := 1256) C dL_isTold_1256 0 rfl ?_
  refine V_if_eq (pc := 1258) (tgt := 1294) C dL_isTold_1258 (by decide) h (fun h => ?_) (fun h => ?_)
  · refine V_sub [1, 3, 4, 5, 6, 7, 8, 0] rfl ?_
    exact k_L_isTold_1294 hT hl C hr hnm htab  h
  · refine V_aload (pc := 1261) C dL_isTold_1261 2 rfl ?_
    refine V_aload (pc := 1263) C dL_isTold_1263 3 rfl ?_
    refine V_iconst (pc := 1265) C (v := 5) dL_isTold_1265 rfl ?_
    refine V_mld (pc := 1266) C hT tb1_arr (n := 8) (c9 := 112) rfl rfl rfl h dL_isTold_1266 (fun h => ?_)
    refine V_iload (pc := 1267) C dL_isTold_1267 4 rfl ?_
    refine V_iconst (pc := 1269) C (v := 4) dL_isTold_1269 rfl ?_
    refine V_iload (pc := 1270) C dL_isTold_1270 5 rfl ?_
    refine V_imul (pc := 1272) C dL_isTold_1272 ?_
    refine V_iadd (pc := 1273) C dL_isTold_1273 ?_
    refine V_mst (pc := 1274) C hT tb1_arr (n := 11) (c9 := 106) (by decide) rfl rfl rfl h dL_isTold_1274 (fun h => V_nx fun S10 e9 => ?_)
    replace h := h S10 e9; clear e9
    refine V_aload (pc := 1275) C dL_isTold_1275 2 rfl ?_
    refine V_iconst (pc := 1277) C (v := 5) dL_isTold_1277 rfl ?_
    refine V_aload (pc := 1278) C dL_isTold_1278 3 rfl ?_
    refine V_iconst (pc := 1280) C (v := 5) dL_isTold_1280 rfl ?_
    refine V_mld (pc := 1281) C hT tb1_arr (n := 8) (c9 := 112) rfl rfl rfl h dL_isTold_1281 (fun h => ?_)
    refine V_iadd (pc := 1282) C dL_isTold_1282 ?_
    refine V_iload (pc := 1283) C dL_isTold_1283 7 rfl ?_
    refine V_mst (pc := 1285) C hT tb1_arr (n := 11) (c9 := 106) (by decide) rfl rfl rfl h dL_isTold_1285 (fun h => V_nx fun S11 e9 => ?_)
    replace h := h S11 e9; clear e9
    refine V_aload (pc := 1286) C dL_isTold_1286 3 rfl ?_
    refine V_iconst (pc := 1288) C (v := 5) dL_isTold_1288 rfl ?_
    refine V_dup2 (pc := 1289) C dL_isTold_1289 rfl rfl ?_
    refine V_mld (pc := 1290) C hT tb1_arr (n := 8) (c9 := 112) rfl rfl rfl h dL_isTold_1290 (fun h => ?_)
    refine V_iconst (pc := 1291) C (v := 1) dL_isTold_1291 rfl ?_
    refine V_iadd (pc := 1292) C dL_isTold_1292 ?_
    refine V_mst (pc := 1293) C hT tb1_arr (n := 8) (c9 := 112) (by decide) rfl rfl rfl h dL_isTold_1293 (fun h => V_nx fun S12 e9 => ?_)
    replace h := h S12 e9; clear e9
    refine V_sub [1, 3, 4, 5, 6, 7, 8, 0] rfl ?_
    exact k_L_isTold_1294 hT hl C hr hnm htab  h
def w_L_isTold_1253  (Q : Nat → Int32 → Sg → Prop) (x9 : Int32) (x10 : Int32) (x11 : Int32) (x12 : Int32) (x13 : Int32) (S : Sg) : Prop := w_L_isTold_1254  Q x9 x10 x11 x12 x13 0 S
theorem k_L_isTold_1253 (hT : xT X = tb1) (hl : l.stackTraces = false) (C : Cn X k0 p l R s m meth c cL_isTold RL 16 14 321) (hr : meth.sig.returnType = (some .boolean)) (hnm : meth.name = yL_isTold.name) (htab : (∀ x ∈ c.exceptionTable.toList, False))  {x9 : Int32} {x10 : Int32} {x11 : Int32} {x12 : Int32} {x13 : Int32} {S : Sg} (h : w_L_isTold_1253  Qa x9 x10 x11 x12 x13 S) : V X p l e R s m args below meth c 16 (QM X below args s S0 ad0 rvI Qa) S0 ad0 S 1253 [(0, Value.ref (enc 0 0)), (4, Value.ref (enc 13 6)), (5, Value.ref (enc 13 12)), (9, Value.int x9), (10, Value.int x10), (11, Value.int x11), (12, Value.int x12), (13, Value.int x13)] [] := by
  refine V_iconst (pc := 1253) C (v := 0) dL_isTold_1253 rfl ?_
  refine V_sub [0, 1, 2, 3, 4, 5, 6, 7] rfl ?_
  exact k_L_isTold_1254 hT hl C hr hnm htab  h
def w_L_isTold_1201  (Q : Nat → Int32 → Sg → Prop) (x6 : Int32) (x9 : Int32) (x10 : Int32) (x11 : Int32) (x12 : Int32) (y0 : Int32) (S : Sg) : Prop := ((x6 = 6 → (vp_in 5 8 ∧ (((S.1 112 (nt 5)) = 5 → Q 0 1 S) ∧ (¬ (S.1 112 (nt 5)) = 5 → ((x11 = 0 → w_L_isTold_1253  Q x9 x10 x11 x12 y0 S) ∧ (¬ x11 = 0 → ((y0 = 0 → w_L_isTold_1253  Q x9 x10 x11 x12 y0 S) ∧ (¬ y0 = 0 → (w_L_fits x9 x10 x12 S (fun k15 v14 S13 => (k15 = 0 → ((v14 = 0 → w_L_isTold_1254  Q x9 x10 x11 x12 y0 1 S13) ∧ (¬ v14 = 0 → w_L_isTold_1253  Q x9 x10 x11 x12 y0 S13))) ∧ (¬ k15 = 0 → Q k15 0 S13))))))))))) ∧ (¬ x6 = 6 → ∃ n9, w_L_isTold_1359  Q n9 x9 x10 x11 x12 y0 (-1) x12 S))
theorem k_L_isTold_1201 (hT : xT X = tb1) (hl : l.stackTraces = false) (C : Cn X k0 p l R s m meth c cL_isTold RL 16 14 321) (hr : meth.sig.returnType = (some .boolean)) (hnm : meth.name = yL_isTold.name) (htab : (∀ x ∈ c.exceptionTable.toList, False))  {x6 : Int32} {x9 : Int32} {x10 : Int32} {x11 : Int32} {x12 : Int32} {y0 : Int32} {S : Sg} (h : w_L_isTold_1201  Qa x6 x9 x10 x11 x12 y0 S) : V X p l e R s m args below meth c 16 (QM X below args s S0 ad0 rvI Qa) S0 ad0 S 1201 [(0, Value.ref (enc 0 0)), (1, Value.ref (enc 13 3)), (2, Value.ref (enc 13 4)), (3, Value.ref (enc 13 5)), (4, Value.ref (enc 13 6)), (5, Value.ref (enc 13 12)), (6, Value.int x6), (9, Value.int x9), (10, Value.int x10), (11, Value.int x11), (12, Value.int x12)] [Value.int y0] := by
  refine V_istore (pc := 1201) C dL_isTold_1201 (by decide) rfl ?_
  refine V_iload (pc := 1203) C dL_isTold_1203 7 rfl ?_
  refine V_bipush (pc := 1205) C (v := 6) dL_isTold_1205 rfl ?_
  refine V_icmp_ne (pc := 1207) (tgt := 1352) C dL_isTold_1207 (by decide) h (fun h => ?_) (fun h => ?_)
  · refine V_iconst (pc := 1352) C (v := (-1)) dL_isTold_1352 rfl ?_
    refine V_istore (pc := 1353) C dL_isTold_1353 (by decide) rfl ?_
    refine V_iload (pc := 1355) C dL_isTold_1355 12 rfl ?_
    refine V_istore (pc := 1357) C dL_isTold_1357 (by decide) rfl ?_
    refine V_sub [3, 4, 5, 6, 7, 8, 10, 11, 12, 13, 2, 1, 0] rfl ?_
    obtain ⟨n9, h⟩ := h
    exact k_L_isTold_1359 hT hl C hr hnm htab  n9 h
  · refine V_aload (pc := 1210) C dL_isTold_1210 6 rfl ?_
    refine V_iconst (pc := 1212) C (v := 5) dL_isTold_1212 rfl ?_
    refine V_mld (pc := 1213) C hT tb1_arr (n := 8) (c9 := 112) rfl rfl rfl h dL_isTold_1213 (fun h => ?_)
    refine V_iconst (pc := 1214) C (v := 5) dL_isTold_1214 rfl ?_
    refine V_icmp_ne (pc := 1215) (tgt := 1220) C dL_isTold_1215 (by decide) h (fun h => ?_) (fun h => ?_)
    · refine V_iload (pc := 1220) C dL_isTold_1220 10 rfl ?_
      refine V_if_eq (pc := 1222) (tgt := 1253) C dL_isTold_1222 (by decide) h (fun h => ?_) (fun h => ?_)
      · refine V_sub [1, 5, 6, 8, 9, 10, 11, 0] rfl ?_
        exact k_L_isTold_1253 hT hl C hr hnm htab  h
      · refine V_iload (pc := 1225) C dL_isTold_1225 0 rfl ?_
        refine V_if_eq (pc := 1227) (tgt := 1253) C dL_isTold_1227 (by decide) h (fun h => ?_) (fun h => ?_)
        · refine V_sub [1, 5, 6, 8, 9, 10, 11, 0] rfl ?_
          exact k_L_isTold_1253 hT hl C hr hnm htab  h
        · refine V_aload_n (pc := 1230) C dL_isTold_1230 rfl 2 rfl ?_
          refine V_aload_n (pc := 1231) C dL_isTold_1231 rfl 3 rfl ?_
          refine V_aload_n (pc := 1232) C dL_isTold_1232 rfl 4 rfl ?_
          refine V_aload (pc := 1233) C dL_isTold_1233 5 rfl ?_
          refine V_aload (pc := 1235) C dL_isTold_1235 6 rfl ?_
          refine V_iload (pc := 1237) C dL_isTold_1237 8 rfl ?_
          refine V_iload (pc := 1239) C dL_isTold_1239 9 rfl ?_
          refine V_iload (pc := 1241) C dL_isTold_1241 11 rfl ?_
          refine V_callS (pc := 1243) C (ct_L_fits hT hl h) g805 g806 g807 g32 ⟨by decide, by decide, pl_L_fits⟩ ⟨by decide, by decide⟩ (rest := []) rfl (le8 rfl) dL_isTold_1243 (fun v14 S13 h => ?_) (fun k9 S9 hk h => VX_out C htab hk (h.2 (by omega)))
          replace h := h.1 rfl
          refine V_st (st' := [Value.int v14]) rfl ?_
          refine V_if_ne (pc := 1246) (tgt := 1253) C dL_isTold_1246 (by decide) h (fun h => ?_) (fun h => ?_)
          · refine V_sub [1, 5, 6, 8, 9, 10, 11, 0] rfl ?_
            exact k_L_isTold_1253 hT hl C hr hnm htab  h
          · refine V_iconst (pc := 1249) C (v := 1) dL_isTold_1249 rfl ?_
            refine V_goto (pc := 1250) (tgt := 1254) C dL_isTold_1250 (by decide) ?_
            refine V_sub [1, 5, 6, 8, 9, 10, 11, 0] rfl ?_
            exact k_L_isTold_1254 hT hl C hr hnm htab  h
    · refine V_iconst (pc := 1218) C (v := 1) dL_isTold_1218 rfl ?_
      exact V_zret (pc := 1219) C hr (by decide) rfl h dL_isTold_1219
def w_L_isTold_1200  (Q : Nat → Int32 → Sg → Prop) (x6 : Int32) (x9 : Int32) (x10 : Int32) (x11 : Int32) (x12 : Int32) (S : Sg) : Prop := w_L_isTold_1201  Q x6 x9 x10 x11 x12 0 S
theorem k_L_isTold_1200 (hT : xT X = tb1) (hl : l.stackTraces = false) (C : Cn X k0 p l R s m meth c cL_isTold RL 16 14 321) (hr : meth.sig.returnType = (some .boolean)) (hnm : meth.name = yL_isTold.name) (htab : (∀ x ∈ c.exceptionTable.toList, False))  {x6 : Int32} {x9 : Int32} {x10 : Int32} {x11 : Int32} {x12 : Int32} {S : Sg} (h : w_L_isTold_1200  Qa x6 x9 x10 x11 x12 S) : V X p l e R s m args below meth c 16 (QM X below args s S0 ad0 rvI Qa) S0 ad0 S 1200 [(0, Value.ref (enc 0 0)), (1, Value.ref (enc 13 3)), (2, Value.ref (enc 13 4)), (3, Value.ref (enc 13 5)), (4, Value.ref (enc 13 6)), (5, Value.ref (enc 13 12)), (6, Value.int x6), (9, Value.int x9), (10, Value.int x10), (11, Value.int x11), (12, Value.int x12)] [] := by
  refine V_iconst (pc := 1200) C (v := 0) dL_isTold_1200 rfl ?_
  refine V_sub [0, 1, 2, 3, 4, 5, 6, 7, 8, 9, 10] rfl ?_
  exact k_L_isTold_1201 hT hl C hr hnm htab  h
def w_L_isTold_1178  (Q : Nat → Int32 → Sg → Prop) (x6 : Int32) (x9 : Int32) (x10 : Int32) (x11 : Int32) (y0 : Int32) (S : Sg) : Prop := (vp_in 0 8 ∧ ((y0 ≤ (S.1 112 (nt 0)) → w_L_isTold_1200  Q x6 x9 x10 x11 y0 S) ∧ (¬ y0 ≤ (S.1 112 (nt 0)) → ((100001 ≤ y0 → w_L_isTold_1200  Q x6 x9 x10 x11 y0 S) ∧ (¬ 100001 ≤ y0 → w_L_isTold_1201  Q x6 x9 x10 x11 y0 1 S)))))
theorem k_L_isTold_1178 (hT : xT X = tb1) (hl : l.stackTraces = false) (C : Cn X k0 p l R s m meth c cL_isTold RL 16 14 321) (hr : meth.sig.returnType = (some .boolean)) (hnm : meth.name = yL_isTold.name) (htab : (∀ x ∈ c.exceptionTable.toList, False))  {x6 : Int32} {x9 : Int32} {x10 : Int32} {x11 : Int32} {y0 : Int32} {S : Sg} (h : w_L_isTold_1178  Qa x6 x9 x10 x11 y0 S) : V X p l e R s m args below meth c 16 (QM X below args s S0 ad0 rvI Qa) S0 ad0 S 1178 [(0, Value.ref (enc 0 0)), (1, Value.ref (enc 13 3)), (2, Value.ref (enc 13 4)), (3, Value.ref (enc 13 5)), (4, Value.ref (enc 13 6)), (5, Value.ref (enc 13 12)), (6, Value.int x6), (9, Value.int x9), (10, Value.int x10), (11, Value.int x11)] [Value.int y0] := by
  refine V_istore (pc := 1178) C dL_isTold_1178 (by decide) rfl ?_
  refine V_iload (pc := 1180) C dL_isTold_1180 0 rfl ?_
  refine V_aload (pc := 1182) C dL_isTold_1182 6 rfl ?_
  refine V_iconst (pc := 1184) C (v := 0) dL_isTold_1184 rfl ?_
  refine V_mld (pc := 1185) C hT tb1_arr (n := 8) (c9 := 112) rfl rfl rfl h dL_isTold_1185 (fun h => ?_)
  refine V_icmp_le (pc := 1186) (tgt := 1200) C dL_isTold_1186 (by decide) h (fun h => ?_) (fun h => ?_)
  · refine V_sub [1, 2, 3, 4, 5, 6, 7, 8, 9, 10, 0] rfl ?_
    exact k_L_isTold_1200 hT hl C hr hnm htab  h
  · refine V_iload (pc := 1189) C dL_isTold_1189 0 rfl ?_
    refine V_ldc (pc := 1191) C g883 dL_isTold_1191 ?_
    refine V_icmp_ge (pc := 1193) (tgt := 1200) C dL_isTold_1193 (by decide) h (fun h => ?_) (fun h => ?_)
    · refine V_sub [1, 2, 3, 4, 5, 6, 7, 8, 9, 10, 0] rfl ?_
      exact k_L_isTold_1200 hT hl C hr hnm htab  h
    · refine V_iconst (pc := 1196) C (v := 1) dL_isTold_1196 rfl ?_
      refine V_goto (pc := 1197) (tgt := 1201) C dL_isTold_1197 (by decide) ?_
      refine V_sub [1, 2, 3, 4, 5, 6, 7, 8, 9, 10, 0] rfl ?_
      exact k_L_isTold_1201 hT hl C hr hnm htab  h
def w_L_isTold_1176  (Q : Nat → Int32 → Sg → Prop) (x6 : Int32) (x9 : Int32) (x10 : Int32) (x11 : Int32) (y0 : Int32) (y1 : Int32) (y2 : Int32) (S : Sg) : Prop := (¬ y0 = 0 ∧ w_L_isTold_1178  Q x6 x9 x10 x11 (y2 + (y1 - y1 / y0 * y0)) S)
theorem k_L_isTold_1176 (hT : xT X = tb1) (hl : l.stackTraces = false) (C : Cn X k0 p l R s m meth c cL_isTold RL 16 14 321) (hr : meth.sig.returnType = (some .boolean)) (hnm : meth.name = yL_isTold.name) (htab : (∀ x ∈ c.exceptionTable.toList, False))  {x6 : Int32} {x9 : Int32} {x10 : Int32} {x11 : Int32} {y0 : Int32} {y1 : Int32} {y2 : Int32} {S : Sg} (h : w_L_isTold_1176  Qa x6 x9 x10 x11 y0 y1 y2 S) : V X p l e R s m args below meth c 16 (QM X below args s S0 ad0 rvI Qa) S0 ad0 S 1176 [(0, Value.ref (enc 0 0)), (1, Value.ref (enc 13 3)), (2, Value.ref (enc 13 4)), (3, Value.ref (enc 13 5)), (4, Value.ref (enc 13 6)), (5, Value.ref (enc 13 12)), (6, Value.int x6), (9, Value.int x9), (10, Value.int x10), (11, Value.int x11)] [Value.int y0, Value.int y1, Value.int y2] := by
  refine V_irem (pc := 1176) C dL_isTold_1176 h.1 ?_
  replace h := h.2
  refine V_iadd (pc := 1177) C dL_isTold_1177 ?_
  refine V_sub [0, 1, 2, 3, 4, 5, 6, 7, 8, 9] rfl ?_
  exact k_L_isTold_1178 hT hl C hr hnm htab  h
def w_L_isTold_1120  (Q : Nat → Int32 → Sg → Prop) (y0 : Int32) (y1 : Int32) (S : Sg) : Prop := ((y1 = y0 → Q 0 1 S) ∧ (¬ y1 = y0 → Q 0 0 S))
theorem k_L_isTold_1120 (hT : xT X = tb1) (hl : l.stackTraces = false) (C : Cn X k0 p l R s m meth c cL_isTold RL 16 14 321) (hr : meth.sig.returnType = (some .boolean)) (hnm : meth.name = yL_isTold.name) (htab : (∀ x ∈ c.exceptionTable.toList, False))  {y0 : Int32} {y1 : Int32} {S : Sg} (h : w_L_isTold_1120  Qa y0 y1 S) : V X p l e R s m args below meth c 16 (QM X below args s S0 ad0 rvI Qa) S0 ad0 S 1120 [] [Value.int y0, Value.int y1] := by
  refine V_icmp_ne (pc := 1120) (tgt := 1127) C dL_isTold_1120 (by decide) h (fun h => ?_) (fun h => ?_)
  · refine V_iconst (pc := 1127) C (v := 0) dL_isTold_1127 rfl ?_
    exact V_zret (pc := 1128) C hr (by decide) rfl h dL_isTold_1128
  · refine V_iconst (pc := 1123) C (v := 1) dL_isTold_1123 rfl ?_
    refine V_goto (pc := 1124) (tgt := 1128) C dL_isTold_1124 (by decide) ?_
    exact V_zret (pc := 1128) C hr (by decide) rfl h dL_isTold_1128
def w_L_isTold_1094  (Q : Nat → Int32 → Sg → Prop) (x12 : Int32) (x13 : Int32) (y0 : Int32) (y1 : Int32) (S : Sg) : Prop := (vp_in y1 8 ∧ (∀ S16, S16 = su S 112 (nt y1) y0 → (w_L_does 4 x12 0 0 0 0 S16 (fun k19 v18 S17 => (k19 = 0 → ((61 ≤ x12 → w_L_isTold_1120  Q (-2000000) v18 S17) ∧ (¬ 61 ≤ x12 → w_L_isTold_1120  Q x13 v18 S17))) ∧ (¬ k19 = 0 → Q k19 0 S17)))))
theorem k_L_isTold_1094 (hT : xT X = tb1) (hl : l.stackTraces = false) (C : Cn X k0 p l R s m meth c cL_isTold RL 16 14 321) (hr : meth.sig.returnType = (some .boolean)) (hnm : meth.name = yL_isTold.name) (htab : (∀ x ∈ c.exceptionTable.toList, False))  {x12 : Int32} {x13 : Int32} {y0 : Int32} {y1 : Int32} {S : Sg} (h : w_L_isTold_1094  Qa x12 x13 y0 y1 S) : V X p l e R s m args below meth c 16 (QM X below args s S0 ad0 rvI Qa) S0 ad0 S 1094 [(0, Value.ref (enc 0 0)), (12, Value.int x12), (13, Value.int x13)] [Value.int y0, Value.int y1, Value.ref (enc 13 12)] := by
  refine V_mst (pc := 1094) C hT tb1_arr (n := 8) (c9 := 112) (by decide) rfl rfl rfl h dL_isTold_1094 (fun h => V_nx fun S16 e9 => ?_)
  replace h := h S16 e9; clear e9
  refine V_aload_n (pc := 1095) C dL_isTold_1095 rfl 0 rfl ?_
  refine V_iconst (pc := 1096) C (v := 4) dL_isTold_1096 rfl ?_
  refine V_iload (pc := 1097) C dL_isTold_1097 1 rfl ?_
  refine V_iconst (pc := 1099) C (v := 0) dL_isTold_1099 rfl ?_
  refine V_iconst (pc := 1100) C (v := 0) dL_isTold_1100 rfl ?_
  refine V_iconst (pc := 1101) C (v := 0) dL_isTold_1101 rfl ?_
  refine V_iconst (pc := 1102) C (v := 0) dL_isTold_1102 rfl ?_
  refine V_callH (pc := 1103) C (ct_L_does hT hl h) g119 g120 g121 g32 ⟨by decide, by decide, pl_L_does⟩ ⟨by decide, by decide⟩ (rest := []) rfl (le8 rfl) dL_isTold_1103 (fun v18 S17 h => ?_) (fun k9 S9 hk h => VX_out C htab hk (h.2 (by omega)))
  replace h := h.1 rfl
  refine V_st (st' := [Value.int v18]) rfl ?_
  refine V_iload (pc := 1106) C dL_isTold_1106 1 rfl ?_
  refine V_bipush (pc := 1108) C (v := 61) dL_isTold_1108 rfl ?_
  refine V_icmp_ge (pc := 1110) (tgt := 1118) C dL_isTold_1110 (by decide) h (fun h => ?_) (fun h => ?_)
  · refine V_ldc (pc := 1118) C g780 dL_isTold_1118 ?_
    refine V_sub [] rfl ?_
    exact k_L_isTold_1120 hT hl C hr hnm htab  h
  · refine V_iload (pc := 1113) C dL_isTold_1113 2 rfl ?_
    refine V_goto (pc := 1115) (tgt := 1120) C dL_isTold_1115 (by decide) ?_
    refine V_sub [] rfl ?_
    exact k_L_isTold_1120 hT hl C hr hnm htab  h
def w_L_isTold_1049  (Q : Nat → Int32 → Sg → Prop) (y0 : Int32) (y1 : Int32) (S : Sg) : Prop := ((y1 = y0 → Q 0 1 S) ∧ (¬ y1 = y0 → Q 0 0 S))
theorem k_L_isTold_1049 (hT : xT X = tb1) (hl : l.stackTraces = false) (C : Cn X k0 p l R s m meth c cL_isTold RL 16 14 321) (hr : meth.sig.returnType = (some .boolean)) (hnm : meth.name = yL_isTold.name) (htab : (∀ x ∈ c.exceptionTable.toList, False))  {y0 : Int32} {y1 : Int32} {S : Sg} (h : w_L_isTold_1049  Qa y0 y1 S) : V X p l e R s m args below meth c 16 (QM X below args s S0 ad0 rvI Qa) S0 ad0 S 1049 [] [Value.int y0, Value.int y1] := by
  refine V_icmp_ne (pc := 1049) (tgt := 1056) C dL_isTold_1049 (by decide) h (fun h => ?_) (fun h => ?_)
  · refine V_iconst (pc := 1056) C (v := 0) dL_isTold_1056 rfl ?_
    exact V_zret (pc := 1057) C hr (by decide) rfl h dL_isTold_1057
  · refine V_iconst (pc := 1052) C (v := 1) dL_isTold_1052 rfl ?_
    refine V_goto (pc := 1053) (tgt := 1057) C dL_isTold_1053 (by decide) ?_
    exact V_zret (pc := 1057) C hr (by decide) rfl h dL_isTold_1057
def w_L_isTold_1009  (Q : Nat → Int32 → Sg → Prop) (x9 : Int32) (x10 : Int32) (x11 : Int32) (x12 : Int32) (x13 : Int32) (x14 : Int32) (S : Sg) : Prop := (w_L_does 3 x9 x10 x12 x13 0 S (fun k22 v21 S20 => (k22 = 0 → ((x11 = 0 → w_L_isTold_1049  Q (-3000000) v21 S20) ∧ (¬ x11 = 0 → ((x14 = 0 → w_L_isTold_1049  Q (-2000000) v21 S20) ∧ (¬ x14 = 0 → (vp_in 4 8 ∧ w_L_isTold_1049  Q ((S20.1 112 (nt 4)) - 1) v21 S20)))))) ∧ (¬ k22 = 0 → Q k22 0 S20)))
theorem k_L_isTold_1009 (hT : xT X = tb1) (hl : l.stackTraces = false) (C : Cn X k0 p l R s m meth c cL_isTold RL 16 14 321) (hr : meth.sig.returnType = (some .boolean)) (hnm : meth.name = yL_isTold.name) (htab : (∀ x ∈ c.exceptionTable.toList, False))  {x9 : Int32} {x10 : Int32} {x11 : Int32} {x12 : Int32} {x13 : Int32} {x14 : Int32} {S : Sg} (h : w_L_isTold_1009  Qa x9 x10 x11 x12 x13 x14 S) : V X p l e R s m args below meth c 16 (QM X below args s S0 ad0 rvI Qa) S0 ad0 S 1009 [(0, Value.ref (enc 0 0)), (5, Value.ref (enc 13 12)), (9, Value.int x9), (10, Value.int x10), (11, Value.int x11), (12, Value.int x12), (13, Value.int x13), (14, Value.int x14)] [] := by
  refine V_aload_n (pc := 1009) C dL_isTold_1009 rfl 0 rfl ?_
  refine V_iconst (pc := 1010) C (v := 3) dL_isTold_1010 rfl ?_
  refine V_iload (pc := 1011) C dL_isTold_1011 2 rfl ?_
  refine V_iload (pc := 1013) C dL_isTold_1013 3 rfl ?_
  refine V_iload (pc := 1015) C dL_isTold_1015 5 rfl ?_
  refine V_iload (pc := 1017) C dL_isTold_1017 6 rfl ?_
  refine V_iconst (pc := 1019) C (v := 0) dL_isTold_1019 rfl ?_
  refine V_callH (pc := 1020) C (ct_L_does hT hl h) g119 g120 g121 g32 ⟨by decide, by decide, pl_L_does⟩ ⟨by decide, by decide⟩ (rest := []) rfl (le8 rfl) dL_isTold_1020 (fun v21 S20 h => ?_) (fun k9 S9 hk h => VX_out C htab hk (h.2 (by omega)))
  replace h := h.1 rfl
  refine V_st (st' := [Value.int v21]) rfl ?_
  refine V_iload (pc := 1023) C dL_isTold_1023 4 rfl ?_
  refine V_if_ne (pc := 1025) (tgt := 1033) C dL_isTold_1025 (by decide) h (fun h => ?_) (fun h => ?_)
  · refine V_iload (pc := 1033) C dL_isTold_1033 7 rfl ?_
    refine V_if_eq (pc := 1035) (tgt := 1047) C dL_isTold_1035 (by decide) h (fun h => ?_) (fun h => ?_)
    · refine V_ldc (pc := 1047) C g780 dL_isTold_1047 ?_
      refine V_sub [] rfl ?_
      exact k_L_isTold_1049 hT hl C hr hnm htab  h
    · refine V_aload (pc := 1038) C dL_isTold_1038 1 rfl ?_
      refine V_iconst (pc := 1040) C (v := 4) dL_isTold_1040 rfl ?_
      refine V_mld (pc := 1041) C hT tb1_arr (n := 8) (c9 := 112) rfl rfl rfl h dL_isTold_1041 (fun h => ?_)
      refine V_iconst (pc := 1042) C (v := 1) dL_isTold_1042 rfl ?_
      refine V_isub (pc := 1043) C dL_isTold_1043 ?_
      refine V_goto (pc := 1044) (tgt := 1049) C dL_isTold_1044 (by decide) ?_
      refine V_sub [] rfl ?_
      exact k_L_isTold_1049 hT hl C hr hnm htab  h
  · refine V_ldc (pc := 1028) C g779 dL_isTold_1028 ?_
    refine V_goto (pc := 1030) (tgt := 1049) C dL_isTold_1030 (by decide) ?_
    refine V_sub [] rfl ?_
    exact k_L_isTold_1049 hT hl C hr hnm htab  h
def w_L_isTold_954  (Q : Nat → Int32 → Sg → Prop) (x9 : Int32) (x10 : Int32) (x11 : Int32) (x12 : Int32) (x13 : Int32) (y0 : Int32) (S : Sg) : Prop := ((x11 = 0 → w_L_isTold_1009  Q x9 x10 x11 x12 x13 y0 S) ∧ (¬ x11 = 0 → ((y0 = 0 → w_L_isTold_1009  Q x9 x10 x11 x12 x13 y0 S) ∧ (¬ y0 = 0 → (vp_in 4 8 ∧ (vp_in (S.1 112 (nt 4)) 36 ∧ (∀ S23, S23 = su S 105 (nt (S.1 112 (nt 4))) (x9 + (4 * x10)) → (vp_in 4 8 ∧ (vp_in (12 + (S23.1 112 (nt 4))) 36 ∧ (∀ S24, S24 = su S23 105 (nt (12 + (S23.1 112 (nt 4)))) x12 → (vp_in 4 8 ∧ (vp_in (24 + (S24.1 112 (nt 4))) 36 ∧ (∀ S25, S25 = su S24 105 (nt (24 + (S24.1 112 (nt 4)))) x13 → (vp_in 4 8 ∧ (vp_in 4 8 ∧ (∀ S26, S26 = su S25 112 (nt 4) ((S25.1 112 (nt 4)) + 1) → w_L_isTold_1009  Q x9 x10 x11 x12 x13 y0 S26))))))))))))))))
theorem k_L_isTold_954 (hT : xT X = tb1) (hl : l.stackTraces = false) (C : Cn X k0 p l R s m meth c cL_isTold RL 16 14 321) (hr : meth.sig.returnType = (some .boolean)) (hnm : meth.name = yL_isTold.name) (htab : (∀ x ∈ c.exceptionTable.toList, False))  {x9 : Int32} {x10 : Int32} {x11 : Int32} {x12 : Int32} {x13 : Int32} {y0 : Int32} {S : Sg} (h : w_L_isTold_954  Qa x9 x10 x11 x12 x13 y0 S) : V X p l e R s m args below meth c 16 (QM X below args s S0 ad0 rvI Qa) S0 ad0 S 954 [(0, Value.ref (enc 0 0)), (3, Value.ref (enc 13 5)), (5, Value.ref (enc 13 12)), (9, Value.int x9), (10, Value.int x10), (11, Value.int x11), (12, Value.int x12), (13, Value.int x13)] [Value.int y0] := by
  refine V_istore (pc := 954) C dL_isTold_954 (by decide) rfl ?_
  refine V_iload (pc := 956) C dL_isTold_956 6 rfl ?_
  refine V_if_eq (pc := 958) (tgt := 1009) C dL_isTold_958 (by decide) h (fun h => ?_) (fun h => ?_)
  · refine V_sub [1, 3, 4, 5, 6, 7, 8, 0] rfl ?_
    exact k_L_isTold_1009 hT hl C hr hnm htab  h
  · refine V_iload (pc := 961) C dL_isTold_961 0 rfl ?_
    refine V_if_eq (pc := 963) (tgt := 1009) C dL_isTold_963 (by decide) h (fun h => ?_) (fun h => ?_)
    · refine V_sub [1, 3, 4, 5, 6, 7, 8, 0] rfl ?_
      exact k_L_isTold_1009 hT hl C hr hnm htab  h
    · refine V_aload_n (pc := 966) C dL_isTold_966 rfl 2 rfl ?_
      refine V_aload (pc := 967) C dL_isTold_967 3 rfl ?_
      refine V_iconst (pc := 969) C (v := 4) dL_isTold_969 rfl ?_
      refine V_mld (pc := 970) C hT tb1_arr (n := 8) (c9 := 112) rfl rfl rfl h dL_isTold_970 (fun h => ?_)
      refine V_iload (pc := 971) C dL_isTold_971 4 rfl ?_
      refine V_iconst (pc := 973) C (v := 4) dL_isTold_973 rfl ?_
      refine V_iload (pc := 974) C dL_isTold_974 5 rfl ?_
      refine V_imul (pc := 976) C dL_isTold_976 ?_
      refine V_iadd (pc := 977) C dL_isTold_977 ?_
      refine V_mst (pc := 978) C hT tb1_arr (n := 36) (c9 := 105) (by decide) rfl rfl rfl h dL_isTold_978 (fun h => V_nx fun S23 e9 => ?_)
      replace h := h S23 e9; clear e9
      refine V_aload_n (pc := 979) C dL_isTold_979 rfl 2 rfl ?_
      refine V_bipush (pc := 980) C (v := 12) dL_isTold_980 rfl ?_
      refine V_aload (pc := 982) C dL_isTold_982 3 rfl ?_
      refine V_iconst (pc := 984) C (v := 4) dL_isTold_984 rfl ?_
      refine V_mld (pc := 985) C hT tb1_arr (n := 8) (c9 := 112) rfl rfl rfl h dL_isTold_985 (fun h => ?_)
      refine V_iadd (pc := 986) C dL_isTold_986 ?_
      refine V_iload (pc := 987) C dL_isTold_987 7 rfl ?_
      refine V_mst (pc := 989) C hT tb1_arr (n := 36) (c9 := 105) (by decide) rfl rfl rfl h dL_isTold_989 (fun h => V_nx fun S24 e9 => ?_)
      replace h := h S24 e9; clear e9
      refine V_aload_n (pc := 990) C dL_isTold_990 rfl 2 rfl ?_
      refine V_bipush (pc := 991) C (v := 24) dL_isTold_991 rfl ?_
      refine V_aload (pc := 993) C dL_isTold_993 3 rfl ?_
      refine V_iconst (pc := 995) C (v := 4) dL_isTold_995 rfl ?_
      refine V_mld (pc := 996) C hT tb1_arr (n := 8) (c9 := 112) rfl rfl rfl h dL_isTold_996 (fun h => ?_)
      refine V_iadd (pc := 997) C dL_isTold_997 ?_
      refine V_iload (pc := 998) C dL_isTold_998 8 rfl ?_
      refine V_mst (pc := 1000) C hT tb1_arr (n := 36) (c9 := 105) (by decide) rfl rfl rfl h dL_isTold_1000 (fun h => V_nx fun S25 e9 => ?_)
      replace h := h S25 e9; clear e9
      refine V_aload (pc := 1001) C dL_isTold_1001 3 rfl ?_
      refine V_iconst (pc := 1003) C (v := 4) dL_isTold_1003 rfl ?_
      refine V_dup2 (pc := 1004) C dL_isTold_1004 rfl rfl ?_
      refine V_mld (pc := 1005) C hT tb1_arr (n := 8) (c9 := 112) rfl rfl rfl h dL_isTold_1005 (fun h => ?_)
      refine V_iconst (pc := 1006) C (v := 1) dL_isTold_1006 rfl ?_
      refine V_iadd (pc := 1007) C dL_isTold_1007 ?_
      refine V_mst (pc := 1008) C hT tb1_arr (n := 8) (c9 := 112) (by decide) rfl rfl rfl h dL_isTold_1008 (fun h => V_nx fun S26 e9 => ?_)
      replace h := h S26 e9; clear e9
      refine V_sub [1, 3, 4, 5, 6, 7, 8, 0] rfl ?_
      exact k_L_isTold_1009 hT hl C hr hnm htab  h
def w_L_isTold_953  (Q : Nat → Int32 → Sg → Prop) (x9 : Int32) (x10 : Int32) (x11 : Int32) (x12 : Int32) (x13 : Int32) (S : Sg) : Prop := w_L_isTold_954  Q x9 x10 x11 x12 x13 0 S
theorem k_L_isTold_953 (hT : xT X = tb1) (hl : l.stackTraces = false) (C : Cn X k0 p l R s m meth c cL_isTold RL 16 14 321) (hr : meth.sig.returnType = (some .boolean)) (hnm : meth.name = yL_isTold.name) (htab : (∀ x ∈ c.exceptionTable.toList, False))  {x9 : Int32} {x10 : Int32} {x11 : Int32} {x12 : Int32} {x13 : Int32} {S : Sg} (h : w_L_isTold_953  Qa x9 x10 x11 x12 x13 S) : V X p l e R s m args below meth c 16 (QM X below args s S0 ad0 rvI Qa) S0 ad0 S 953 [(0, Value.ref (enc 0 0)), (3, Value.ref (enc 13 5)), (5, Value.ref (enc 13 12)), (9, Value.int x9), (10, Value.int x10), (11, Value.int x11), (12, Value.int x12), (13, Value.int x13)] [] := by
  refine V_iconst (pc := 953) C (v := 0) dL_isTold_953 rfl ?_
  refine V_sub [0, 1, 2, 3, 4, 5, 6, 7] rfl ?_
  exact k_L_isTold_954 hT hl C hr hnm htab  h
def w_L_isTold_921  (Q : Nat → Int32 → Sg → Prop) (x9 : Int32) (x10 : Int32) (x11 : Int32) (x12 : Int32) (y0 : Int32) (S : Sg) : Prop := ((x12 < 0 → w_L_isTold_953  Q x9 x10 x11 x12 y0 S) ∧ (¬ x12 < 0 → ((100001 ≤ x12 → w_L_isTold_953  Q x9 x10 x11 x12 y0 S) ∧ (¬ 100001 ≤ x12 → ((y0 ≤ x12 → w_L_isTold_953  Q x9 x10 x11 x12 y0 S) ∧ (¬ y0 ≤ x12 → ((110001 ≤ y0 → w_L_isTold_953  Q x9 x10 x11 x12 y0 S) ∧ (¬ 110001 ≤ y0 → w_L_isTold_954  Q x9 x10 x11 x12 y0 1 S))))))))
theorem k_L_isTold_921 (hT : xT X = tb1) (hl : l.stackTraces = false) (C : Cn X k0 p l R s m meth c cL_isTold RL 16 14 321) (hr : meth.sig.returnType = (some .boolean)) (hnm : meth.name = yL_isTold.name) (htab : (∀ x ∈ c.exceptionTable.toList, False))  {x9 : Int32} {x10 : Int32} {x11 : Int32} {x12 : Int32} {y0 : Int32} {S : Sg} (h : w_L_isTold_921  Qa x9 x10 x11 x12 y0 S) : V X p l e R s m args below meth c 16 (QM X below args s S0 ad0 rvI Qa) S0 ad0 S 921 [(0, Value.ref (enc 0 0)), (3, Value.ref (enc 13 5)), (5, Value.ref (enc 13 12)), (9, Value.int x9), (10, Value.int x10), (11, Value.int x11), (12, Value.int x12)] [Value.int y0] := by
  refine V_istore (pc := 921) C dL_isTold_921 (by decide) rfl ?_
  refine V_iload (pc := 923) C dL_isTold_923 7 rfl ?_
  refine V_if_lt (pc := 925) (tgt := 953) C dL_isTold_925 (by decide) h (fun h => ?_) (fun h => ?_)
  · refine V_sub [1, 2, 3, 4, 5, 6, 7, 0] rfl ?_
    exact k_L_isTold_953 hT hl C hr hnm htab  h
  · refine V_iload (pc := 928) C dL_isTold_928 7 rfl ?_
    refine V_ldc (pc := 930) C g883 dL_isTold_930 ?_
    refine V_icmp_ge (pc := 932) (tgt := 953) C dL_isTold_932 (by decide) h (fun h => ?_) (fun h => ?_)
    · refine V_sub [1, 2, 3, 4, 5, 6, 7, 0] rfl ?_
      exact k_L_isTold_953 hT hl C hr hnm htab  h
    · refine V_iload (pc := 935) C dL_isTold_935 0 rfl ?_
      refine V_iload (pc := 937) C dL_isTold_937 7 rfl ?_
      refine V_icmp_le (pc := 939) (tgt := 953) C dL_isTold_939 (by decide) h (fun h => ?_) (fun h => ?_)
      · refine V_sub [1, 2, 3, 4, 5, 6, 7, 0] rfl ?_
        exact k_L_isTold_953 hT hl C hr hnm htab  h
      · refine V_iload (pc := 942) C dL_isTold_942 0 rfl ?_
        refine V_ldc (pc := 944) C g889 dL_isTold_944 ?_
        refine V_icmp_ge (pc := 946) (tgt := 953) C dL_isTold_946 (by decide) h (fun h => ?_) (fun h => ?_)
        · refine V_sub [1, 2, 3, 4, 5, 6, 7, 0] rfl ?_
          exact k_L_isTold_953 hT hl C hr hnm htab  h
        · refine V_iconst (pc := 949) C (v := 1) dL_isTold_949 rfl ?_
          refine V_goto (pc := 950) (tgt := 954) C dL_isTold_950 (by decide) ?_
          refine V_sub [1, 2, 3, 4, 5, 6, 7, 0] rfl ?_
          exact k_L_isTold_954 hT hl C hr hnm htab  h
def w_L_isTold_871  (Q : Nat → Int32 → Sg → Prop) (x8 : Int32) (x9 : Int32) (x10 : Int32) (x11 : Int32) (y0 : Int32) (S : Sg) : Prop := ((((x8 / 3) - (x8 / 3) / 9 * 9) = 8 → w_L_isTold_921  Q x9 x10 x11 y0 y0 S) ∧ (¬ ((x8 / 3) - (x8 / 3) / 9 * 9) = 8 → ((((x8 / 3) - (x8 / 3) / 9 * 9) = 7 → w_L_isTold_921  Q x9 x10 x11 y0 110000 S) ∧ (¬ ((x8 / 3) - (x8 / 3) / 9 * 9) = 7 → w_L_isTold_921  Q x9 x10 x11 y0 ((y0 + 1) + ((x8 / 27) - (x8 / 27) / 3000 * 3000)) S))))
theorem k_L_isTold_871 (hT : xT X = tb1) (hl : l.stackTraces = false) (C : Cn X k0 p l R s m meth c cL_isTold RL 16 14 321) (hr : meth.sig.returnType = (some .boolean)) (hnm : meth.name = yL_isTold.name) (htab : (∀ x ∈ c.exceptionTable.toList, False))  {x8 : Int32} {x9 : Int32} {x10 : Int32} {x11 : Int32} {y0 : Int32} {S : Sg} (h : w_L_isTold_871  Qa x8 x9 x10 x11 y0 S) : V X p l e R s m args below meth c 16 (QM X below args s S0 ad0 rvI Qa) S0 ad0 S 871 [(0, Value.ref (enc 0 0)), (3, Value.ref (enc 13 5)), (5, Value.ref (enc 13 12)), (8, Value.int x8), (9, Value.int x9), (10, Value.int x10), (11, Value.int x11)] [Value.int y0] := by
  refine V_istore (pc := 871) C dL_isTold_871 (by decide) rfl ?_
  refine V_iload (pc := 873) C dL_isTold_873 4 rfl ?_
  refine V_iconst (pc := 875) C (v := 3) dL_isTold_875 rfl ?_
  refine V_idiv (pc := 876) C dL_isTold_876 (by decide) ?_
  refine V_bipush (pc := 877) C (v := 9) dL_isTold_877 rfl ?_
  refine V_irem (pc := 879) C dL_isTold_879 (by decide) ?_
  refine V_bipush (pc := 880) C (v := 8) dL_isTold_880 rfl ?_
  refine V_icmp_ne (pc := 882) (tgt := 890) C dL_isTold_882 (by decide) h (fun h => ?_) (fun h => ?_)
  · refine V_iload (pc := 890) C dL_isTold_890 4 rfl ?_
    refine V_iconst (pc := 892) C (v := 3) dL_isTold_892 rfl ?_
    refine V_idiv (pc := 893) C dL_isTold_893 (by decide) ?_
    refine V_bipush (pc := 894) C (v := 9) dL_isTold_894 rfl ?_
    refine V_irem (pc := 896) C dL_isTold_896 (by decide) ?_
    refine V_bipush (pc := 897) C (v := 7) dL_isTold_897 rfl ?_
    refine V_icmp_ne (pc := 899) (tgt := 907) C dL_isTold_899 (by decide) h (fun h => ?_) (fun h => ?_)
    · refine V_iload (pc := 907) C dL_isTold_907 0 rfl ?_
      refine V_iconst (pc := 909) C (v := 1) dL_isTold_909 rfl ?_
      refine V_iadd (pc := 910) C dL_isTold_910 ?_
      refine V_iload (pc := 911) C dL_isTold_911 4 rfl ?_
      refine V_bipush (pc := 913) C (v := 27) dL_isTold_913 rfl ?_
      refine V_idiv (pc := 915) C dL_isTold_915 (by decide) ?_
      refine V_sipush (pc := 916) C (v := 3000) dL_isTold_916 rfl ?_
      refine V_irem (pc := 919) C dL_isTold_919 (by decide) ?_
      refine V_iadd (pc := 920) C dL_isTold_920 ?_
      refine V_sub [1, 2, 3, 5, 6, 7, 0] rfl ?_
      exact k_L_isTold_921 hT hl C hr hnm htab  h
    · refine V_ldc (pc := 902) C g888 dL_isTold_902 ?_
      refine V_goto (pc := 904) (tgt := 921) C dL_isTold_904 (by decide) ?_
      refine V_sub [1, 2, 3, 5, 6, 7, 0] rfl ?_
      exact k_L_isTold_921 hT hl C hr hnm htab  h
  · refine V_iload (pc := 885) C dL_isTold_885 0 rfl ?_
    refine V_goto (pc := 887) (tgt := 921) C dL_isTold_887 (by decide) ?_
    refine V_sub [1, 2, 3, 5, 6, 7, 0] rfl ?_
    exact k_L_isTold_921 hT hl C hr hnm htab  h
def w_L_isTold_687  (Q : Nat → Int32 → Sg → Prop) (x6 : Int32) (x7 : Int32) (x8 : Int32) (x9 : Int32) (x10 : Int32) (y0 : Int32) (S : Sg) : Prop := ((x6 = 3 → (vp_in 3 8 ∧ ((x9 = (S.1 112 (nt 3)) → Q 0 1 S) ∧ (¬ x9 = (S.1 112 (nt 3)) → (∀ v29, v29 = (8 * x9) + 3 → (vp_in v29 24 ∧ (∀ S30, S30 = su S 104 (nt v29) (x7 - x7 / 101 * 101) → (vp_in (v29 + 1) 24 ∧ (∀ S31, S31 = su S30 104 (nt (v29 + 1)) (x8 - x8 / 60 * 60) → (vp_in (v29 + 2) 24 ∧ (∀ S32, S32 = su S31 104 (nt (v29 + 2)) ((x7 / 3) - (x7 / 3) / 101 * 101) → (vp_in (v29 + 3) 24 ∧ (∀ S33, S33 = su S32 104 (nt (v29 + 3)) (x8 - x8 / 700 * 700) → (vp_in (v29 + 4) 24 ∧ (∀ S34, S34 = su S33 104 (nt (v29 + 4)) ((x7 / 7) - (x7 / 7) / 500 * 500) → (vp_in v29 24 ∧ (vp_in (v29 + 1) 24 ∧ (vp_in (v29 + 2) 24 ∧ (vp_in (v29 + 3) 24 ∧ (vp_in (v29 + 4) 24 ∧ (w_X7_terms x9 (S34.1 104 (nt v29)) (S34.1 104 (nt (v29 + 1))) (S34.1 104 (nt (v29 + 2))) (S34.1 104 (nt (v29 + 3))) (S34.1 104 (nt (v29 + 4))) S34 (fun k37 v36 S35 => (k37 = 0 → Q 0 1 S35) ∧ (¬ k37 = 0 → Q k37 0 S35))))))))))))))))))))))) ∧ (¬ x6 = 3 → ((x6 = 4 → (vp_in 4 8 ∧ (((S.1 112 (nt 4)) = 12 → Q 0 1 S) ∧ (¬ (S.1 112 (nt 4)) = 12 → ((((x7 / 3) - (x7 / 3) / 9 * 9) = 8 → w_L_isTold_871  Q x8 x9 x10 y0 (-1) S) ∧ (¬ ((x7 / 3) - (x7 / 3) / 9 * 9) = 8 → ((((x7 / 3) - (x7 / 3) / 3 * 3) = 0 → w_L_isTold_871  Q x8 x9 x10 y0 0 S) ∧ (¬ ((x7 / 3) - (x7 / 3) / 3 * 3) = 0 → (vp_in 0 8 ∧ w_L_isTold_871  Q x8 x9 x10 y0 ((S.1 112 (nt 0)) + ((x7 / 9) - (x7 / 9) / 300 * 300)) S))))))))) ∧ (¬ x6 = 4 → ((x6 = 5 → (∀ v27, v27 = x7 - x7 / 62 * 62 → (vp_in 1 8 ∧ (∀ v28, v28 = S.1 112 (nt 1) → ((61 ≤ v27 → w_L_isTold_1094  Q v27 v28 v28 1 S) ∧ (¬ 61 ≤ v27 → w_L_isTold_1094  Q v27 v28 v27 1 S)))))) ∧ (¬ x6 = 5 → ((((x7 / 9) - (x7 / 9) / 13 * 13) = 12 → (vp_in 0 8 ∧ w_L_isTold_1178  Q x6 x9 x10 y0 (S.1 112 (nt 0)) S)) ∧ (¬ ((x7 / 9) - (x7 / 9) / 13 * 13) = 12 → (vp_in 0 8 ∧ (((x8 - x8 / 3 * 3) = 0 → w_L_isTold_1176  Q x6 x9 x10 y0 3000 (x7 / 9) ((S.1 112 (nt 0)) + 1) S) ∧ (¬ (x8 - x8 / 3 * 3) = 0 → w_L_isTold_1176  Q x6 x9 x10 y0 200 (x7 / 9) ((S.1 112 (nt 0)) + 1) S)))))))))))
theorem k_L_isTold_687 (hT : xT X = tb1) (hl : l.stackTraces = false) (C : Cn X k0 p l R s m meth c cL_isTold RL 16 14 321) (hr : meth.sig.returnType = (some .boolean)) (hnm : meth.name = yL_isTold.name) (htab : (∀ x ∈ c.exceptionTable.toList, False))  {x6 : Int32} {x7 : Int32} {x8 : Int32} {x9 : Int32} {x10 : Int32} {y0 : Int32} {S : Sg} (h : w_L_isTold_687  Qa x6 x7 x8 x9 x10 y0 S) : V X p l e R s m args below meth c 16 (QM X below args s S0 ad0 rvI Qa) S0 ad0 S 687 [(0, Value.ref (enc 0 0)), (1, Value.ref (enc 13 3)), (2, Value.ref (enc 13 4)), (3, Value.ref (enc 13 5)), (4, Value.ref (enc 13 6)), (5, Value.ref (enc 13 12)), (6, Value.int x6), (7, Value.int x7), (8, Value.int x8), (9, Value.int x9), (10, Value.int x10)] [Value.int y0] := by
  refine V_istore (pc := 687) C dL_isTold_687 (by decide) rfl ?_
  refine V_iload (pc := 689) C dL_isTold_689 7 rfl ?_
  refine V_iconst (pc := 691) C (v := 3) dL_isTold_691 rfl ?_
  refine V_icmp_ne (pc := 692) (tgt := 811) C dL_isTold_692 (by decide) h (fun h => ?_) (fun h => ?_)
  · refine V_iload (pc := 811) C dL_isTold_811 7 rfl ?_
    refine V_iconst (pc := 813) C (v := 4) dL_isTold_813 rfl ?_
    refine V_icmp_ne (pc := 814) (tgt := 1058) C dL_isTold_814 (by decide) h (fun h => ?_) (fun h => ?_)
    · refine V_iload (pc := 1058) C dL_isTold_1058 7 rfl ?_
      refine V_iconst (pc := 1060) C (v := 5) dL_isTold_1060 rfl ?_
      refine V_icmp_ne (pc := 1061) (tgt := 1129) C dL_isTold_1061 (by decide) h (fun h => ?_) (fun h => ?_)
      · refine V_iload (pc := 1129) C dL_isTold_1129 8 rfl ?_
        refine V_bipush (pc := 1131) C (v := 9) dL_isTold_1131 rfl ?_
        refine V_idiv (pc := 1133) C dL_isTold_1133 (by decide) ?_
        refine V_bipush (pc := 1134) C (v := 13) dL_isTold_1134 rfl ?_
        refine V_irem (pc := 1136) C dL_isTold_1136 (by decide) ?_
        refine V_bipush (pc := 1137) C (v := 12) dL_isTold_1137 rfl ?_
        refine V_icmp_ne (pc := 1139) (tgt := 1149) C dL_isTold_1139 (by decide) h (fun h => ?_) (fun h => ?_)
        · refine V_aload (pc := 1149) C dL_isTold_1149 6 rfl ?_
          refine V_iconst (pc := 1151) C (v := 0) dL_isTold_1151 rfl ?_
          refine V_mld (pc := 1152) C hT tb1_arr (n := 8) (c9 := 112) rfl rfl rfl h dL_isTold_1152 (fun h => ?_)
          refine V_iconst (pc := 1153) C (v := 1) dL_isTold_1153 rfl ?_
          refine V_iadd (pc := 1154) C dL_isTold_1154 ?_
          refine V_iload (pc := 1155) C dL_isTold_1155 8 rfl ?_
          refine V_bipush (pc := 1157) C (v := 9) dL_isTold_1157 rfl ?_
          refine V_idiv (pc := 1159) C dL_isTold_1159 (by decide) ?_
          refine V_iload (pc := 1160) C dL_isTold_1160 9 rfl ?_
          refine V_iconst (pc := 1162) C (v := 3) dL_isTold_1162 rfl ?_
          refine V_irem (pc := 1163) C dL_isTold_1163 (by decide) ?_
          refine V_if_ne (pc := 1164) (tgt := 1173) C dL_isTold_1164 (by decide) h (fun h => ?_) (fun h => ?_)
          · refine V_sipush (pc := 1173) C (v := 200) dL_isTold_1173 rfl ?_
            refine V_sub [1, 2, 3, 4, 5, 6, 7, 10, 11, 0] rfl ?_
            exact k_L_isTold_1176 hT hl C hr hnm htab  h
          · refine V_sipush (pc := 1167) C (v := 3000) dL_isTold_1167 rfl ?_
            refine V_goto (pc := 1170) (tgt := 1176) C dL_isTold_1170 (by decide) ?_
            refine V_sub [1, 2, 3, 4, 5, 6, 7, 10, 11, 0] rfl ?_
            exact k_L_isTold_1176 hT hl C hr hnm htab  h
        · refine V_aload (pc := 1142) C dL_isTold_1142 6 rfl ?_
          refine V_iconst (pc := 1144) C (v := 0) dL_isTold_1144 rfl ?_
          refine V_mld (pc := 1145) C hT tb1_arr (n := 8) (c9 := 112) rfl rfl rfl h dL_isTold_1145 (fun h => ?_)
          refine V_goto (pc := 1146) (tgt := 1178) C dL_isTold_1146 (by decide) ?_
          refine V_sub [1, 2, 3, 4, 5, 6, 7, 10, 11, 0] rfl ?_
          exact k_L_isTold_1178 hT hl C hr hnm htab  h
      · refine V_iload (pc := 1064) C dL_isTold_1064 8 rfl ?_
        refine V_bipush (pc := 1066) C (v := 62) dL_isTold_1066 rfl ?_
        refine V_irem (pc := 1068) C dL_isTold_1068 (by decide) ?_
        refine V_nI fun v27 e9 => ?_
        replace h := h v27 e9; clear e9
        refine V_istore (pc := 1069) C dL_isTold_1069 (by decide) rfl ?_
        refine V_aload (pc := 1071) C dL_isTold_1071 7 rfl ?_
        refine V_iconst (pc := 1073) C (v := 1) dL_isTold_1073 rfl ?_
        refine V_mld (pc := 1074) C hT tb1_arr (n := 8) (c9 := 112) rfl rfl rfl h dL_isTold_1074 (fun h => ?_)
        refine V_nI fun v28 e9 => ?_
        replace h := h v28 e9; clear e9
        refine V_istore (pc := 1075) C dL_isTold_1075 (by decide) rfl ?_
        refine V_aload (pc := 1077) C dL_isTold_1077 8 rfl ?_
        refine V_iconst (pc := 1079) C (v := 1) dL_isTold_1079 rfl ?_
        refine V_iload (pc := 1080) C dL_isTold_1080 1 rfl ?_
        refine V_bipush (pc := 1082) C (v := 61) dL_isTold_1082 rfl ?_
        refine V_icmp_ge (pc := 1084) (tgt := 1092) C dL_isTold_1084 (by decide) h (fun h => ?_) (fun h => ?_)
        · refine V_iload (pc := 1092) C dL_isTold_1092 0 rfl ?_
          refine V_sub [3, 1, 0] rfl ?_
          exact k_L_isTold_1094 hT hl C hr hnm htab  h
        · refine V_iload (pc := 1087) C dL_isTold_1087 1 rfl ?_
          refine V_goto (pc := 1089) (tgt := 1094) C dL_isTold_1089 (by decide) ?_
          refine V_sub [3, 1, 0] rfl ?_
          exact k_L_isTold_1094 hT hl C hr hnm htab  h
    · refine V_aload (pc := 817) C dL_isTold_817 6 rfl ?_
      refine V_iconst (pc := 819) C (v := 4) dL_isTold_819 rfl ?_
      refine V_mld (pc := 820) C hT tb1_arr (n := 8) (c9 := 112) rfl rfl rfl h dL_isTold_820 (fun h => ?_)
      refine V_bipush (pc := 821) C (v := 12) dL_isTold_821 rfl ?_
      refine V_icmp_ne (pc := 823) (tgt := 828) C dL_isTold_823 (by decide) h (fun h => ?_) (fun h => ?_)
      · refine V_iload (pc := 828) C dL_isTold_828 8 rfl ?_
        refine V_iconst (pc := 830) C (v := 3) dL_isTold_830 rfl ?_
        refine V_idiv (pc := 831) C dL_isTold_831 (by decide) ?_
        refine V_bipush (pc := 832) C (v := 9) dL_isTold_832 rfl ?_
        refine V_irem (pc := 834) C dL_isTold_834 (by decide) ?_
        refine V_bipush (pc := 835) C (v := 8) dL_isTold_835 rfl ?_
        refine V_icmp_ne (pc := 837) (tgt := 844) C dL_isTold_837 (by decide) h (fun h => ?_) (fun h => ?_)
        · refine V_iload (pc := 844) C dL_isTold_844 8 rfl ?_
          refine V_iconst (pc := 846) C (v := 3) dL_isTold_846 rfl ?_
          refine V_idiv (pc := 847) C dL_isTold_847 (by decide) ?_
          refine V_iconst (pc := 848) C (v := 3) dL_isTold_848 rfl ?_
          refine V_irem (pc := 849) C dL_isTold_849 (by decide) ?_
          refine V_if_ne (pc := 850) (tgt := 857) C dL_isTold_850 (by decide) h (fun h => ?_) (fun h => ?_)
          · refine V_aload (pc := 857) C dL_isTold_857 6 rfl ?_
            refine V_iconst (pc := 859) C (v := 0) dL_isTold_859 rfl ?_
            refine V_mld (pc := 860) C hT tb1_arr (n := 8) (c9 := 112) rfl rfl rfl h dL_isTold_860 (fun h => ?_)
            refine V_iload (pc := 861) C dL_isTold_861 8 rfl ?_
            refine V_bipush (pc := 863) C (v := 9) dL_isTold_863 rfl ?_
            refine V_idiv (pc := 865) C dL_isTold_865 (by decide) ?_
            refine V_sipush (pc := 866) C (v := 300) dL_isTold_866 rfl ?_
            refine V_irem (pc := 869) C dL_isTold_869 (by decide) ?_
            refine V_iadd (pc := 870) C dL_isTold_870 ?_
            refine V_sub [1, 4, 6, 9, 10, 11, 0] rfl ?_
            exact k_L_isTold_871 hT hl C hr hnm htab  h
          · refine V_iconst (pc := 853) C (v := 0) dL_isTold_853 rfl ?_
            refine V_goto (pc := 854) (tgt := 871) C dL_isTold_854 (by decide) ?_
            refine V_sub [1, 4, 6, 9, 10, 11, 0] rfl ?_
            exact k_L_isTold_871 hT hl C hr hnm htab  h
        · refine V_iconst (pc := 840) C (v := (-1)) dL_isTold_840 rfl ?_
          refine V_goto (pc := 841) (tgt := 871) C dL_isTold_841 (by decide) ?_
          refine V_sub [1, 4, 6, 9, 10, 11, 0] rfl ?_
          exact k_L_isTold_871 hT hl C hr hnm htab  h
      · refine V_iconst (pc := 826) C (v := 1) dL_isTold_826 rfl ?_
        exact V_zret (pc := 827) C hr (by decide) rfl h dL_isTold_827
  · refine V_iload (pc := 695) C dL_isTold_695 10 rfl ?_
    refine V_aload (pc := 697) C dL_isTold_697 6 rfl ?_
    refine V_iconst (pc := 699) C (v := 3) dL_isTold_699 rfl ?_
    refine V_mld (pc := 700) C hT tb1_arr (n := 8) (c9 := 112) rfl rfl rfl h dL_isTold_700 (fun h => ?_)
    refine V_icmp_ne (pc := 701) (tgt := 706) C dL_isTold_701 (by decide) h (fun h => ?_) (fun h => ?_)
    · refine V_bipush (pc := 706) C (v := 8) dL_isTold_706 rfl ?_
      refine V_iload (pc := 708) C dL_isTold_708 10 rfl ?_
      refine V_imul (pc := 710) C dL_isTold_710 ?_
      refine V_iconst (pc := 711) C (v := 3) dL_isTold_711 rfl ?_
      refine V_iadd (pc := 712) C dL_isTold_712 ?_
      refine V_nI fun v29 e9 => ?_
      replace h := h v29 e9; clear e9
      refine V_istore (pc := 713) C dL_isTold_713 (by decide) rfl ?_
      refine V_aload_n (pc := 715) C dL_isTold_715 rfl 4 rfl ?_
      refine V_iload (pc := 716) C dL_isTold_716 0 rfl ?_
      refine V_iload (pc := 718) C dL_isTold_718 9 rfl ?_
      refine V_bipush (pc := 720) C (v := 101) dL_isTold_720 rfl ?_
      refine V_irem (pc := 722) C dL_isTold_722 (by decide) ?_
      refine V_mst (pc := 723) C hT tb1_arr (n := 24) (c9 := 104) (by decide) rfl rfl rfl h dL_isTold_723 (fun h => V_nx fun S30 e9 => ?_)
      replace h := h S30 e9; clear e9
      refine V_aload_n (pc := 724) C dL_isTold_724 rfl 4 rfl ?_
      refine V_iload (pc := 725) C dL_isTold_725 0 rfl ?_
      refine V_iconst (pc := 727) C (v := 1) dL_isTold_727 rfl ?_
      refine V_iadd (pc := 728) C dL_isTold_728 ?_
      refine V_iload (pc := 729) C dL_isTold_729 10 rfl ?_
      refine V_bipush (pc := 731) C (v := 60) dL_isTold_731 rfl ?_
      refine V_irem (pc := 733) C dL_isTold_733 (by decide) ?_
      refine V_mst (pc := 734) C hT tb1_arr (n := 24) (c9 := 104) (by decide) rfl rfl rfl h dL_isTold_734 (fun h => V_nx fun S31 e9 => ?_)
      replace h := h S31 e9; clear e9
      refine V_aload_n (pc := 735) C dL_isTold_735 rfl 4 rfl ?_
      refine V_iload (pc := 736) C dL_isTold_736 0 rfl ?_
      refine V_iconst (pc := 738) C (v := 2) dL_isTold_738 rfl ?_
      refine V_iadd (pc := 739) C dL_isTold_739 ?_
      refine V_iload (pc := 740) C dL_isTold_740 9 rfl ?_
      refine V_iconst (pc := 742) C (v := 3) dL_isTold_742 rfl ?_
      refine V_idiv (pc := 743) C dL_isTold_743 (by decide) ?_
      refine V_bipush (pc := 744) C (v := 101) dL_isTold_744 rfl ?_
      refine V_irem (pc := 746) C dL_isTold_746 (by decide) ?_
      refine V_mst (pc := 747) C hT tb1_arr (n := 24) (c9 := 104) (by decide) rfl rfl rfl h dL_isTold_747 (fun h => V_nx fun S32 e9 => ?_)
      replace h := h S32 e9; clear e9
      refine V_aload_n (pc := 748) C dL_isTold_748 rfl 4 rfl ?_
      refine V_iload (pc := 749) C dL_isTold_749 0 rfl ?_
      refine V_iconst (pc := 751) C (v := 3) dL_isTold_751 rfl ?_
      refine V_iadd (pc := 752) C dL_isTold_752 ?_
      refine V_iload (pc := 753) C dL_isTold_753 10 rfl ?_
      refine V_sipush (pc := 755) C (v := 700) dL_isTold_755 rfl ?_
      refine V_irem (pc := 758) C dL_isTold_758 (by decide) ?_
      refine V_mst (pc := 759) C hT tb1_arr (n := 24) (c9 := 104) (by decide) rfl rfl rfl h dL_isTold_759 (fun h => V_nx fun S33 e9 => ?_)
      replace h := h S33 e9; clear e9
      refine V_aload_n (pc := 760) C dL_isTold_760 rfl 4 rfl ?_
      refine V_iload (pc := 761) C dL_isTold_761 0 rfl ?_
      refine V_iconst (pc := 763) C (v := 4) dL_isTold_763 rfl ?_
      refine V_iadd (pc := 764) C dL_isTold_764 ?_
      refine V_iload (pc := 765) C dL_isTold_765 9 rfl ?_
      refine V_bipush (pc := 767) C (v := 7) dL_isTold_767 rfl ?_
      refine V_idiv (pc := 769) C dL_isTold_769 (by decide) ?_
      refine V_sipush (pc := 770) C (v := 500) dL_isTold_770 rfl ?_
      refine V_irem (pc := 773) C dL_isTold_773 (by decide) ?_
      refine V_mst (pc := 774) C hT tb1_arr (n := 24) (c9 := 104) (by decide) rfl rfl rfl h dL_isTold_774 (fun h => V_nx fun S34 e9 => ?_)
      replace h := h S34 e9; clear e9
      refine V_aload_n (pc := 775) C dL_isTold_775 rfl 2 rfl ?_
      refine V_iload (pc := 776) C dL_isTold_776 11 rfl ?_
      refine V_aload_n (pc := 778) C dL_isTold_778 rfl 4 rfl ?_
      refine V_iload (pc := 779) C dL_isTold_779 0 rfl ?_
      refine V_mld (pc := 781) C hT tb1_arr (n := 24) (c9 := 104) rfl rfl rfl h dL_isTold_781 (fun h => ?_)
      refine V_aload_n (pc := 782) C dL_isTold_782 rfl 4 rfl ?_
      refine V_iload (pc := 783) C dL_isTold_783 0 rfl ?_
      refine V_iconst (pc := 785) C (v := 1) dL_isTold_785 rfl ?_
      refine V_iadd (pc := 786) C dL_isTold_786 ?_
      refine V_mld (pc := 787) C hT tb1_arr (n := 24) (c9 := 104) rfl rfl rfl h dL_isTold_787 (fun h => ?_)
      refine V_aload_n (pc := 788) C dL_isTold_788 rfl 4 rfl ?_
      refine V_iload (pc := 789) C dL_isTold_789 0 rfl ?_
      refine V_iconst (pc := 791) C (v := 2) dL_isTold_791 rfl ?_
      refine V_iadd (pc := 792) C dL_isTold_792 ?_
      refine V_mld (pc := 793) C hT tb1_arr (n := 24) (c9 := 104) rfl rfl rfl h dL_isTold_793 (fun h => ?_)
      refine V_aload_n (pc := 794) C dL_isTold_794 rfl 4 rfl ?_
      refine V_iload (pc := 795) C dL_isTold_795 0 rfl ?_
      refine V_iconst (pc := 797) C (v := 3) dL_isTold_797 rfl ?_
      refine V_iadd (pc := 798) C dL_isTold_798 ?_
      refine V_mld (pc := 799) C hT tb1_arr (n := 24) (c9 := 104) rfl rfl rfl h dL_isTold_799 (fun h => ?_)
      refine V_aload_n (pc := 800) C dL_isTold_800 rfl 4 rfl ?_
      refine V_iload (pc := 801) C dL_isTold_801 0 rfl ?_
      refine V_iconst (pc := 803) C (v := 4) dL_isTold_803 rfl ?_
      refine V_iadd (pc := 804) C dL_isTold_804 ?_
      refine V_mld (pc := 805) C hT tb1_arr (n := 24) (c9 := 104) rfl rfl rfl h dL_isTold_805 (fun h => ?_)
      refine V_callV (pc := 806) C (ct_X7_terms hT hl h) g884 g885 g886 g887 g33 ⟨by decide, by decide, pl_X7_terms⟩ (enc_ne63 (by decide)) (ct_obj hT rfl (by decide)) rfl ⟨by decide, by decide⟩ (rest := []) rfl (le8 rfl) dL_isTold_806 (fun v36 S35 h => ?_) (fun k9 S9 hk h => VX_out C htab hk (h.2 (by omega)))
      replace h := h.1 rfl
      refine V_st (st' := []) rfl ?_
      refine V_iconst (pc := 809) C (v := 1) dL_isTold_809 rfl ?_
      exact V_zret (pc := 810) C hr (by decide) rfl h dL_isTold_810
    · refine V_iconst (pc := 704) C (v := 1) dL_isTold_704 rfl ?_
      exact V_zret (pc := 705) C hr (by decide) rfl h dL_isTold_705
def w_L_isTold_686  (Q : Nat → Int32 → Sg → Prop) (x6 : Int32) (x7 : Int32) (x8 : Int32) (x9 : Int32) (x10 : Int32) (S : Sg) : Prop := w_L_isTold_687  Q x6 x7 x8 x9 x10 0 S
theorem k_L_isTold_686 (hT : xT X = tb1) (hl : l.stackTraces = false) (C : Cn X k0 p l R s m meth c cL_isTold RL 16 14 321) (hr : meth.sig.returnType = (some .boolean)) (hnm : meth.name = yL_isTold.name) (htab : (∀ x ∈ c.exceptionTable.toList, False))  {x6 : Int32} {x7 : Int32} {x8 : Int32} {x9 : Int32} {x10 : Int32} {S : Sg} (h : w_L_isTold_686  Qa x6 x7 x8 x9 x10 S) : V X p l e R s m args below meth c 16 (QM X below args s S0 ad0 rvI Qa) S0 ad0 S 686 [(0, Value.ref (enc 0 0)), (1, Value.ref (enc 13 3)), (2, Value.ref (enc 13 4)), (3, Value.ref (enc 13 5)), (4, Value.ref (enc 13 6)), (5, Value.ref (enc 13 12)), (6, Value.int x6), (7, Value.int x7), (8, Value.int x8), (9, Value.int x9), (10, Value.int x10)] [] := by
  refine V_iconst (pc := 686) C (v := 0) dL_isTold_686 rfl ?_
  refine V_sub [0, 1, 2, 3, 4, 5, 6, 7, 8, 9, 10] rfl ?_
  exact k_L_isTold_687 hT hl C hr hnm htab  h
def w_L_isTold_633  (Q : Nat → Int32 → Sg → Prop) (y0 : Int32) (y1 : Int32) (S : Sg) : Prop := ((y1 = y0 → Q 0 1 S) ∧ (¬ y1 = y0 → Q 0 0 S))
theorem k_L_isTold_633 (hT : xT X = tb1) (hl : l.stackTraces = false) (C : Cn X k0 p l R s m meth c cL_isTold RL 16 14 321) (hr : meth.sig.returnType = (some .boolean)) (hnm : meth.name = yL_isTold.name) (htab : (∀ x ∈ c.exceptionTable.toList, False))  {y0 : Int32} {y1 : Int32} {S : Sg} (h : w_L_isTold_633  Qa y0 y1 S) : V X p l e R s m args below meth c 16 (QM X below args s S0 ad0 rvI Qa) S0 ad0 S 633 [] [Value.int y0, Value.int y1] := by
  refine V_icmp_ne (pc := 633) (tgt := 640) C dL_isTold_633 (by decide) h (fun h => ?_) (fun h => ?_)
  · refine V_iconst (pc := 640) C (v := 0) dL_isTold_640 rfl ?_
    exact V_zret (pc := 641) C hr (by decide) rfl h dL_isTold_641
  · refine V_iconst (pc := 636) C (v := 1) dL_isTold_636 rfl ?_
    refine V_goto (pc := 637) (tgt := 641) C dL_isTold_637 (by decide) ?_
    exact V_zret (pc := 641) C hr (by decide) rfl h dL_isTold_641
def w_L_isTold_604  (Q : Nat → Int32 → Sg → Prop) (x9 : Int32) (x10 : Int32) (x11 : Int32) (x12 : Int32) (S : Sg) : Prop := (w_L_does 2 x9 x10 x11 0 0 S (fun k40 v39 S38 => (k40 = 0 → ((x12 = 0 → w_L_isTold_633  Q (-2000000) v39 S38) ∧ (¬ x12 = 0 → (vp_in 3 8 ∧ w_L_isTold_633  Q ((S38.1 112 (nt 3)) - 1) v39 S38)))) ∧ (¬ k40 = 0 → Q k40 0 S38)))
theorem k_L_isTold_604 (hT : xT X = tb1) (hl : l.stackTraces = false) (C : Cn X k0 p l R s m meth c cL_isTold RL 16 14 321) (hr : meth.sig.returnType = (some .boolean)) (hnm : meth.name = yL_isTold.name) (htab : (∀ x ∈ c.exceptionTable.toList, False))  {x9 : Int32} {x10 : Int32} {x11 : Int32} {x12 : Int32} {S : Sg} (h : w_L_isTold_604  Qa x9 x10 x11 x12 S) : V X p l e R s m args below meth c 16 (QM X below args s S0 ad0 rvI Qa) S0 ad0 S 604 [(0, Value.ref (enc 0 0)), (5, Value.ref (enc 13 12)), (9, Value.int x9), (10, Value.int x10), (11, Value.int x11), (12, Value.int x12)] [] := by
  refine V_aload_n (pc := 604) C dL_isTold_604 rfl 0 rfl ?_
  refine V_iconst (pc := 605) C (v := 2) dL_isTold_605 rfl ?_
  refine V_iload (pc := 606) C dL_isTold_606 2 rfl ?_
  refine V_iload (pc := 608) C dL_isTold_608 3 rfl ?_
  refine V_iload (pc := 610) C dL_isTold_610 4 rfl ?_
  refine V_iconst (pc := 612) C (v := 0) dL_isTold_612 rfl ?_
  refine V_iconst (pc := 613) C (v := 0) dL_isTold_613 rfl ?_
  refine V_callH (pc := 614) C (ct_L_does hT hl h) g119 g120 g121 g32 ⟨by decide, by decide, pl_L_does⟩ ⟨by decide, by decide⟩ (rest := []) rfl (le8 rfl) dL_isTold_614 (fun v39 S38 h => ?_) (fun k9 S9 hk h => VX_out C htab hk (h.2 (by omega)))
  replace h := h.1 rfl
  refine V_st (st' := [Value.int v39]) rfl ?_
  refine V_iload (pc := 617) C dL_isTold_617 5 rfl ?_
  refine V_if_eq (pc := 619) (tgt := 631) C dL_isTold_619 (by decide) h (fun h => ?_) (fun h => ?_)
  · refine V_ldc (pc := 631) C g780 dL_isTold_631 ?_
    refine V_sub [] rfl ?_
    exact k_L_isTold_633 hT hl C hr hnm htab  h
  · refine V_aload (pc := 622) C dL_isTold_622 1 rfl ?_
    refine V_iconst (pc := 624) C (v := 3) dL_isTold_624 rfl ?_
    refine V_mld (pc := 625) C hT tb1_arr (n := 8) (c9 := 112) rfl rfl rfl h dL_isTold_625 (fun h => ?_)
    refine V_iconst (pc := 626) C (v := 1) dL_isTold_626 rfl ?_
    refine V_isub (pc := 627) C dL_isTold_627 ?_
    refine V_goto (pc := 628) (tgt := 633) C dL_isTold_628 (by decide) ?_
    refine V_sub [] rfl ?_
    exact k_L_isTold_633 hT hl C hr hnm htab  h
def w_L_isTold_526  (Q : Nat → Int32 → Sg → Prop) (x9 : Int32) (x10 : Int32) (x11 : Int32) (y0 : Int32) (S : Sg) : Prop := ((y0 = 0 → w_L_isTold_604  Q x9 x10 x11 y0 S) ∧ (¬ y0 = 0 → (vp_in 3 8 ∧ (vp_in (8 * (S.1 112 (nt 3))) 24 ∧ (∀ S41, S41 = su S 104 (nt (8 * (S.1 112 (nt 3)))) x9 → (vp_in 3 8 ∧ (vp_in ((8 * (S41.1 112 (nt 3))) + 1) 24 ∧ (∀ S42, S42 = su S41 104 (nt ((8 * (S41.1 112 (nt 3))) + 1)) x10 → (vp_in 3 8 ∧ (vp_in ((8 * (S42.1 112 (nt 3))) + 2) 24 ∧ (∀ S43, S43 = su S42 104 (nt ((8 * (S42.1 112 (nt 3))) + 2)) x11 → (vp_in 3 8 ∧ (vp_in ((8 * (S43.1 112 (nt 3))) + 3) 24 ∧ (∀ S44, S44 = su S43 104 (nt ((8 * (S43.1 112 (nt 3))) + 3)) 50 → (vp_in 3 8 ∧ (vp_in ((8 * (S44.1 112 (nt 3))) + 5) 24 ∧ (∀ S45, S45 = su S44 104 (nt ((8 * (S44.1 112 (nt 3))) + 5)) 50 → (vp_in 3 8 ∧ (vp_in 3 8 ∧ (∀ S46, S46 = su S45 112 (nt 3) ((S45.1 112 (nt 3)) + 1) → w_L_isTold_604  Q x9 x10 x11 y0 S46))))))))))))))))))))
theorem k_L_isTold_526 (hT : xT X = tb1) (hl : l.stackTraces = false) (C : Cn X k0 p l R s m meth c cL_isTold RL 16 14 321) (hr : meth.sig.returnType = (some .boolean)) (hnm : meth.name = yL_isTold.name) (htab : (∀ x ∈ c.exceptionTable.toList, False))  {x9 : Int32} {x10 : Int32} {x11 : Int32} {y0 : Int32} {S : Sg} (h : w_L_isTold_526  Qa x9 x10 x11 y0 S) : V X p l e R s m args below meth c 16 (QM X below args s S0 ad0 rvI Qa) S0 ad0 S 526 [(0, Value.ref (enc 0 0)), (2, Value.ref (enc 13 4)), (5, Value.ref (enc 13 12)), (9, Value.int x9), (10, Value.int x10), (11, Value.int x11)] [Value.int y0] := by
  refine V_istore (pc := 526) C dL_isTold_526 (by decide) rfl ?_
  refine V_iload (pc := 528) C dL_isTold_528 0 rfl ?_
  refine V_if_eq (pc := 530) (tgt := 604) C dL_isTold_530 (by decide) h (fun h => ?_) (fun h => ?_)
  · refine V_sub [1, 3, 4, 5, 6, 0] rfl ?_
    exact k_L_isTold_604 hT hl C hr hnm htab  h
  · refine V_aload_n (pc := 533) C dL_isTold_533 rfl 2 rfl ?_
    refine V_bipush (pc := 534) C (v := 8) dL_isTold_534 rfl ?_
    refine V_aload (pc := 536) C dL_isTold_536 3 rfl ?_
    refine V_iconst (pc := 538) C (v := 3) dL_isTold_538 rfl ?_
    refine V_mld (pc := 539) C hT tb1_arr (n := 8) (c9 := 112) rfl rfl rfl h dL_isTold_539 (fun h => ?_)
    refine V_imul (pc := 540) C dL_isTold_540 ?_
    refine V_iload (pc := 541) C dL_isTold_541 4 rfl ?_
    refine V_mst (pc := 543) C hT tb1_arr (n := 24) (c9 := 104) (by decide) rfl rfl rfl h dL_isTold_543 (fun h => V_nx fun S41 e9 => ?_)
    replace h := h S41 e9; clear e9
    refine V_aload_n (pc := 544) C dL_isTold_544 rfl 2 rfl ?_
    refine V_bipush (pc := 545) C (v := 8) dL_isTold_545 rfl ?_
    refine V_aload (pc := 547) C dL_isTold_547 3 rfl ?_
    refine V_iconst (pc := 549) C (v := 3) dL_isTold_549 rfl ?_
    refine V_mld (pc := 550) C hT tb1_arr (n := 8) (c9 := 112) rfl rfl rfl h dL_isTold_550 (fun h => ?_)
    refine V_imul (pc := 551) C dL_isTold_551 ?_
    refine V_iconst (pc := 552) C (v := 1) dL_isTold_552 rfl ?_
    refine V_iadd (pc := 553) C dL_isTold_553 ?_
    refine V_iload (pc := 554) C dL_isTold_554 5 rfl ?_
    refine V_mst (pc := 556) C hT tb1_arr (n := 24) (c9 := 104) (by decide) rfl rfl rfl h dL_isTold_556 (fun h => V_nx fun S42 e9 => ?_)
    replace h := h S42 e9; clear e9
    refine V_aload_n (pc := 557) C dL_isTold_557 rfl 2 rfl ?_
    refine V_bipush (pc := 558) C (v := 8) dL_isTold_558 rfl ?_
    refine V_aload (pc := 560) C dL_isTold_560 3 rfl ?_
    refine V_iconst (pc := 562) C (v := 3) dL_isTold_562 rfl ?_
    refine V_mld (pc := 563) C hT tb1_arr (n := 8) (c9 := 112) rfl rfl rfl h dL_isTold_563 (fun h => ?_)
    refine V_imul (pc := 564) C dL_isTold_564 ?_
    refine V_iconst (pc := 565) C (v := 2) dL_isTold_565 rfl ?_
    refine V_iadd (pc := 566) C dL_isTold_566 ?_
    refine V_iload (pc := 567) C dL_isTold_567 6 rfl ?_
    refine V_mst (pc := 569) C hT tb1_arr (n := 24) (c9 := 104) (by decide) rfl rfl rfl h dL_isTold_569 (fun h => V_nx fun S43 e9 => ?_)
    replace h := h S43 e9; clear e9
    refine V_aload_n (pc := 570) C dL_isTold_570 rfl 2 rfl ?_
    refine V_bipush (pc := 571) C (v := 8) dL_isTold_571 rfl ?_
    refine V_aload (pc := 573) C dL_isTold_573 3 rfl ?_
    refine V_iconst (pc := 575) C (v := 3) dL_isTold_575 rfl ?_
    refine V_mld (pc := 576) C hT tb1_arr (n := 8) (c9 := 112) rfl rfl rfl h dL_isTold_576 (fun h => ?_)
    refine V_imul (pc := 577) C dL_isTold_577 ?_
    refine V_iconst (pc := 578) C (v := 3) dL_isTold_578 rfl ?_
    refine V_iadd (pc := 579) C dL_isTold_579 ?_
    refine V_bipush (pc := 580) C (v := 50) dL_isTold_580 rfl ?_
    refine V_mst (pc := 582) C hT tb1_arr (n := 24) (c9 := 104) (by decide) rfl rfl rfl h dL_isTold_582 (fun h => V_nx fun S44 e9 => ?_)
    replace h := h S44 e9; clear e9
    refine V_aload_n (pc := 583) C dL_isTold_583 rfl 2 rfl ?_
    refine V_bipush (pc := 584) C (v := 8) dL_isTold_584 rfl ?_
    refine V_aload (pc := 586) C dL_isTold_586 3 rfl ?_
    refine V_iconst (pc := 588) C (v := 3) dL_isTold_588 rfl ?_
    refine V_mld (pc := 589) C hT tb1_arr (n := 8) (c9 := 112) rfl rfl rfl h dL_isTold_589 (fun h => ?_)
    refine V_imul (pc := 590) C dL_isTold_590 ?_
    refine V_iconst (pc := 591) C (v := 5) dL_isTold_591 rfl ?_
    refine V_iadd (pc := 592) C dL_isTold_592 ?_
    refine V_bipush (pc := 593) C (v := 50) dL_isTold_593 rfl ?_
    refine V_mst (pc := 595) C hT tb1_arr (n := 24) (c9 := 104) (by decide) rfl rfl rfl h dL_isTold_595 (fun h => V_nx fun S45 e9 => ?_)
    replace h := h S45 e9; clear e9
    refine V_aload (pc := 596) C dL_isTold_596 3 rfl ?_
    refine V_iconst (pc := 598) C (v := 3) dL_isTold_598 rfl ?_
    refine V_dup2 (pc := 599) C dL_isTold_599 rfl rfl ?_
    refine V_mld (pc := 600) C hT tb1_arr (n := 8) (c9 := 112) rfl rfl rfl h dL_isTold_600 (fun h => ?_)
    refine V_iconst (pc := 601) C (v := 1) dL_isTold_601 rfl ?_
    refine V_iadd (pc := 602) C dL_isTold_602 ?_
    refine V_mst (pc := 603) C hT tb1_arr (n := 8) (c9 := 112) (by decide) rfl rfl rfl h dL_isTold_603 (fun h => V_nx fun S46 e9 => ?_)
    replace h := h S46 e9; clear e9
    refine V_sub [1, 3, 4, 5, 6, 0] rfl ?_
    exact k_L_isTold_604 hT hl C hr hnm htab  h
def w_L_isTold_525  (Q : Nat → Int32 → Sg → Prop) (x9 : Int32) (x10 : Int32) (x11 : Int32) (S : Sg) : Prop := w_L_isTold_526  Q x9 x10 x11 0 S
theorem k_L_isTold_525 (hT : xT X = tb1) (hl : l.stackTraces = false) (C : Cn X k0 p l R s m meth c cL_isTold RL 16 14 321) (hr : meth.sig.returnType = (some .boolean)) (hnm : meth.name = yL_isTold.name) (htab : (∀ x ∈ c.exceptionTable.toList, False))  {x9 : Int32} {x10 : Int32} {x11 : Int32} {S : Sg} (h : w_L_isTold_525  Qa x9 x10 x11 S) : V X p l e R s m args below meth c 16 (QM X below args s S0 ad0 rvI Qa) S0 ad0 S 525 [(0, Value.ref (enc 0 0)), (2, Value.ref (enc 13 4)), (5, Value.ref (enc 13 12)), (9, Value.int x9), (10, Value.int x10), (11, Value.int x11)] [] := by
  refine V_iconst (pc := 525) C (v := 0) dL_isTold_525 rfl ?_
  refine V_sub [0, 1, 2, 3, 4, 5] rfl ?_
  exact k_L_isTold_526 hT hl C hr hnm htab  h
def w_L_isTold_484  (Q : Nat → Int32 → Sg → Prop) (x9 : Int32) (x10 : Int32) (y0 : Int32) (S : Sg) : Prop := ((x9 ≤ 29 → w_L_isTold_525  Q x9 x10 y0 S) ∧ (¬ x9 ≤ 29 → ((241 ≤ x9 → w_L_isTold_525  Q x9 x10 y0 S) ∧ (¬ 241 ≤ x9 → ((19 ≤ x10 → w_L_isTold_525  Q x9 x10 y0 S) ∧ (¬ 19 ≤ x10 → ((y0 ≤ 0 → w_L_isTold_525  Q x9 x10 y0 S) ∧ (¬ y0 ≤ 0 → ((1000 ≤ y0 → w_L_isTold_525  Q x9 x10 y0 S) ∧ (¬ 1000 ≤ y0 → w_L_isTold_526  Q x9 x10 y0 1 S))))))))))
theorem k_L_isTold_484 (hT : xT X = tb1) (hl : l.stackTraces = false) (C : Cn X k0 p l R s m meth c cL_isTold RL 16 14 321) (hr : meth.sig.returnType = (some .boolean)) (hnm : meth.name = yL_isTold.name) (htab : (∀ x ∈ c.exceptionTable.toList, False))  {x9 : Int32} {x10 : Int32} {y0 : Int32} {S : Sg} (h : w_L_isTold_484  Qa x9 x10 y0 S) : V X p l e R s m args below meth c 16 (QM X below args s S0 ad0 rvI Qa) S0 ad0 S 484 [(0, Value.ref (enc 0 0)), (2, Value.ref (enc 13 4)), (5, Value.ref (enc 13 12)), (9, Value.int x9), (10, Value.int x10)] [Value.int y0] := by
  refine V_istore (pc := 484) C dL_isTold_484 (by decide) rfl ?_
  refine V_iload (pc := 486) C dL_isTold_486 4 rfl ?_
  refine V_bipush (pc := 488) C (v := 29) dL_isTold_488 rfl ?_
  refine V_icmp_le (pc := 490) (tgt := 525) C dL_isTold_490 (by decide) h (fun h => ?_) (fun h => ?_)
  · refine V_sub [1, 2, 3, 4, 5, 0] rfl ?_
    exact k_L_isTold_525 hT hl C hr hnm htab  h
  · refine V_iload (pc := 493) C dL_isTold_493 4 rfl ?_
    refine V_sipush (pc := 495) C (v := 241) dL_isTold_495 rfl ?_
    refine V_icmp_ge (pc := 498) (tgt := 525) C dL_isTold_498 (by decide) h (fun h => ?_) (fun h => ?_)
    · refine V_sub [1, 2, 3, 4, 5, 0] rfl ?_
      exact k_L_isTold_525 hT hl C hr hnm htab  h
    · refine V_iload (pc := 501) C dL_isTold_501 5 rfl ?_
      refine V_bipush (pc := 503) C (v := 19) dL_isTold_503 rfl ?_
      refine V_icmp_ge (pc := 505) (tgt := 525) C dL_isTold_505 (by decide) h (fun h => ?_) (fun h => ?_)
      · refine V_sub [1, 2, 3, 4, 5, 0] rfl ?_
        exact k_L_isTold_525 hT hl C hr hnm htab  h
      · refine V_iload (pc := 508) C dL_isTold_508 0 rfl ?_
        refine V_if_le (pc := 510) (tgt := 525) C dL_isTold_510 (by decide) h (fun h => ?_) (fun h => ?_)
        · refine V_sub [1, 2, 3, 4, 5, 0] rfl ?_
          exact k_L_isTold_525 hT hl C hr hnm htab  h
        · refine V_iload (pc := 513) C dL_isTold_513 0 rfl ?_
          refine V_sipush (pc := 515) C (v := 1000) dL_isTold_515 rfl ?_
          refine V_icmp_ge (pc := 518) (tgt := 525) C dL_isTold_518 (by decide) h (fun h => ?_) (fun h => ?_)
          · refine V_sub [1, 2, 3, 4, 5, 0] rfl ?_
            exact k_L_isTold_525 hT hl C hr hnm htab  h
          · refine V_iconst (pc := 521) C (v := 1) dL_isTold_521 rfl ?_
            refine V_goto (pc := 522) (tgt := 526) C dL_isTold_522 (by decide) ?_
            refine V_sub [1, 2, 3, 4, 5, 0] rfl ?_
            exact k_L_isTold_526 hT hl C hr hnm htab  h
def w_L_isTold_446  (Q : Nat → Int32 → Sg → Prop) (x8 : Int32) (x9 : Int32) (y0 : Int32) (S : Sg) : Prop := ((((x8 / 9) - (x8 / 9) / 9 * 9) = 0 → w_L_isTold_484  Q x9 y0 (((x8 / 81) - (x8 / 81) / 2 * 2) * 1000) S) ∧ (¬ ((x8 / 9) - (x8 / 9) / 9 * 9) = 0 → w_L_isTold_484  Q x9 y0 (1 + ((x8 / 9) - (x8 / 9) / 999 * 999)) S))
theorem k_L_isTold_446 (hT : xT X = tb1) (hl : l.stackTraces = false) (C : Cn X k0 p l R s m meth c cL_isTold RL 16 14 321) (hr : meth.sig.returnType = (some .boolean)) (hnm : meth.name = yL_isTold.name) (htab : (∀ x ∈ c.exceptionTable.toList, False))  {x8 : Int32} {x9 : Int32} {y0 : Int32} {S : Sg} (h : w_L_isTold_446  Qa x8 x9 y0 S) : V X p l e R s m args below meth c 16 (QM X below args s S0 ad0 rvI Qa) S0 ad0 S 446 [(0, Value.ref (enc 0 0)), (2, Value.ref (enc 13 4)), (5, Value.ref (enc 13 12)), (8, Value.int x8), (9, Value.int x9)] [Value.int y0] := by
  refine V_istore (pc := 446) C dL_isTold_446 (by decide) rfl ?_
  refine V_iload (pc := 448) C dL_isTold_448 4 rfl ?_
  refine V_bipush (pc := 450) C (v := 9) dL_isTold_450 rfl ?_
  refine V_idiv (pc := 452) C dL_isTold_452 (by decide) ?_
  refine V_bipush (pc := 453) C (v := 9) dL_isTold_453 rfl ?_
  refine V_irem (pc := 455) C dL_isTold_455 (by decide) ?_
  refine V_if_ne (pc := 456) (tgt := 473) C dL_isTold_456 (by decide) h (fun h => ?_) (fun h => ?_)
  · refine V_iconst (pc := 473) C (v := 1) dL_isTold_473 rfl ?_
    refine V_iload (pc := 474) C dL_isTold_474 4 rfl ?_
    refine V_bipush (pc := 476) C (v := 9) dL_isTold_476 rfl ?_
    refine V_idiv (pc := 478) C dL_isTold_478 (by decide) ?_
    refine V_sipush (pc := 479) C (v := 999) dL_isTold_479 rfl ?_
    refine V_irem (pc := 482) C dL_isTold_482 (by decide) ?_
    refine V_iadd (pc := 483) C dL_isTold_483 ?_
    refine V_sub [1, 2, 3, 5, 0] rfl ?_
    exact k_L_isTold_484 hT hl C hr hnm htab  h
  · refine V_iload (pc := 459) C dL_isTold_459 4 rfl ?_
    refine V_bipush (pc := 461) C (v := 81) dL_isTold_461 rfl ?_
    refine V_idiv (pc := 463) C dL_isTold_463 (by decide) ?_
    refine V_iconst (pc := 464) C (v := 2) dL_isTold_464 rfl ?_
    refine V_irem (pc := 465) C dL_isTold_465 (by decide) ?_
    refine V_sipush (pc := 466) C (v := 1000) dL_isTold_466 rfl ?_
    refine V_imul (pc := 469) C dL_isTold_469 ?_
    refine V_goto (pc := 470) (tgt := 484) C dL_isTold_470 (by decide) ?_
    refine V_sub [1, 2, 3, 5, 0] rfl ?_
    exact k_L_isTold_484 hT hl C hr hnm htab  h
def w_L_isTold_424  (Q : Nat → Int32 → Sg → Prop) (x8 : Int32) (y0 : Int32) (S : Sg) : Prop := (((x8 - x8 / 9 * 9) = 0 → w_L_isTold_446  Q x8 y0 19 S) ∧ (¬ (x8 - x8 / 9 * 9) = 0 → w_L_isTold_446  Q x8 y0 ((x8 - x8 / 3 * 3) * 6) S))
theorem k_L_isTold_424 (hT : xT X = tb1) (hl : l.stackTraces = false) (C : Cn X k0 p l R s m meth c cL_isTold RL 16 14 321) (hr : meth.sig.returnType = (some .boolean)) (hnm : meth.name = yL_isTold.name) (htab : (∀ x ∈ c.exceptionTable.toList, False))  {x8 : Int32} {y0 : Int32} {S : Sg} (h : w_L_isTold_424  Qa x8 y0 S) : V X p l e R s m args below meth c 16 (QM X below args s S0 ad0 rvI Qa) S0 ad0 S 424 [(0, Value.ref (enc 0 0)), (2, Value.ref (enc 13 4)), (5, Value.ref (enc 13 12)), (8, Value.int x8)] [Value.int y0] := by
  refine V_istore (pc := 424) C dL_isTold_424 (by decide) rfl ?_
  refine V_iload (pc := 426) C dL_isTold_426 4 rfl ?_
  refine V_bipush (pc := 428) C (v := 9) dL_isTold_428 rfl ?_
  refine V_irem (pc := 430) C dL_isTold_430 (by decide) ?_
  refine V_if_ne (pc := 431) (tgt := 439) C dL_isTold_431 (by decide) h (fun h => ?_) (fun h => ?_)
  · refine V_iload (pc := 439) C dL_isTold_439 4 rfl ?_
    refine V_iconst (pc := 441) C (v := 3) dL_isTold_441 rfl ?_
    refine V_irem (pc := 442) C dL_isTold_442 (by decide) ?_
    refine V_bipush (pc := 443) C (v := 6) dL_isTold_443 rfl ?_
    refine V_imul (pc := 445) C dL_isTold_445 ?_
    refine V_sub [1, 2, 3, 4, 0] rfl ?_
    exact k_L_isTold_446 hT hl C hr hnm htab  h
  · refine V_bipush (pc := 434) C (v := 19) dL_isTold_434 rfl ?_
    refine V_goto (pc := 436) (tgt := 446) C dL_isTold_436 (by decide) ?_
    refine V_sub [1, 2, 3, 4, 0] rfl ?_
    exact k_L_isTold_446 hT hl C hr hnm htab  h
def w_L_isTold_366  (Q : Nat → Int32 → Sg → Prop) (y0 : Int32) (y1 : Int32) (S : Sg) : Prop := ((y1 = y0 → Q 0 1 S) ∧ (¬ y1 = y0 → Q 0 0 S))
theorem k_L_isTold_366 (hT : xT X = tb1) (hl : l.stackTraces = false) (C : Cn X k0 p l R s m meth c cL_isTold RL 16 14 321) (hr : meth.sig.returnType = (some .boolean)) (hnm : meth.name = yL_isTold.name) (htab : (∀ x ∈ c.exceptionTable.toList, False))  {y0 : Int32} {y1 : Int32} {S : Sg} (h : w_L_isTold_366  Qa y0 y1 S) : V X p l e R s m args below meth c 16 (QM X below args s S0 ad0 rvI Qa) S0 ad0 S 366 [] [Value.int y0, Value.int y1] := by
  refine V_icmp_ne (pc := 366) (tgt := 373) C dL_isTold_366 (by decide) h (fun h => ?_) (fun h => ?_)
  · refine V_iconst (pc := 373) C (v := 0) dL_isTold_373 rfl ?_
    exact V_zret (pc := 374) C hr (by decide) rfl h dL_isTold_374
  · refine V_iconst (pc := 369) C (v := 1) dL_isTold_369 rfl ?_
    refine V_goto (pc := 370) (tgt := 374) C dL_isTold_370 (by decide) ?_
    exact V_zret (pc := 374) C hr (by decide) rfl h dL_isTold_374
def w_L_isTold_339  (Q : Nat → Int32 → Sg → Prop) (x11 : Int32) (x12 : Int32) (x13 : Int32) (y0 : Int32) (y1 : Int32) (y2 : Int32) (y3 : Int32) (S : Sg) : Prop := (w_L_does y3 y2 y1 y0 0 0 S (fun k49 v48 S47 => (k49 = 0 → ((x11 = 0 → w_L_isTold_366  Q (-3000000) v48 S47) ∧ (¬ x11 = 0 → ((x12 = 0 → w_L_isTold_366  Q (-2000000) v48 S47) ∧ (¬ x12 = 0 → w_L_isTold_366  Q x13 v48 S47))))) ∧ (¬ k49 = 0 → Q k49 0 S47)))
theorem k_L_isTold_339 (hT : xT X = tb1) (hl : l.stackTraces = false) (C : Cn X k0 p l R s m meth c cL_isTold RL 16 14 321) (hr : meth.sig.returnType = (some .boolean)) (hnm : meth.name = yL_isTold.name) (htab : (∀ x ∈ c.exceptionTable.toList, False))  {x11 : Int32} {x12 : Int32} {x13 : Int32} {y0 : Int32} {y1 : Int32} {y2 : Int32} {y3 : Int32} {S : Sg} (h : w_L_isTold_339  Qa x11 x12 x13 y0 y1 y2 y3 S) : V X p l e R s m args below meth c 16 (QM X below args s S0 ad0 rvI Qa) S0 ad0 S 339 [(11, Value.int x11), (12, Value.int x12), (13, Value.int x13)] [Value.int y0, Value.int y1, Value.int y2, Value.int y3, Value.ref (enc 0 0)] := by
  refine V_iconst (pc := 339) C (v := 0) dL_isTold_339 rfl ?_
  refine V_iconst (pc := 340) C (v := 0) dL_isTold_340 rfl ?_
  refine V_callH (pc := 341) C (ct_L_does hT hl h) g119 g120 g121 g32 ⟨by decide, by decide, pl_L_does⟩ ⟨by decide, by decide⟩ (rest := []) rfl (le8 rfl) dL_isTold_341 (fun v48 S47 h => ?_) (fun k9 S9 hk h => VX_out C htab hk (h.2 (by omega)))
  replace h := h.1 rfl
  refine V_st (st' := [Value.int v48]) rfl ?_
  refine V_iload (pc := 344) C dL_isTold_344 0 rfl ?_
  refine V_if_ne (pc := 346) (tgt := 354) C dL_isTold_346 (by decide) h (fun h => ?_) (fun h => ?_)
  · refine V_iload (pc := 354) C dL_isTold_354 1 rfl ?_
    refine V_if_eq (pc := 356) (tgt := 364) C dL_isTold_356 (by decide) h (fun h => ?_) (fun h => ?_)
    · refine V_ldc (pc := 364) C g780 dL_isTold_364 ?_
      refine V_sub [] rfl ?_
      exact k_L_isTold_366 hT hl C hr hnm htab  h
    · refine V_iload (pc := 359) C dL_isTold_359 2 rfl ?_
      refine V_goto (pc := 361) (tgt := 366) C dL_isTold_361 (by decide) ?_
      refine V_sub [] rfl ?_
      exact k_L_isTold_366 hT hl C hr hnm htab  h
  · refine V_ldc (pc := 349) C g779 dL_isTold_349 ?_
    refine V_goto (pc := 351) (tgt := 366) C dL_isTold_351 (by decide) ?_
    refine V_sub [] rfl ?_
    exact k_L_isTold_366 hT hl C hr hnm htab  h
def w_L_isTold_318  (Q : Nat → Int32 → Sg → Prop) (x8 : Int32) (x9 : Int32) (x10 : Int32) (x11 : Int32) (x12 : Int32) (x13 : Int32) (S : Sg) : Prop := ((((x8 / 9) - (x8 / 9) / 3 * 3) = 0 → w_L_isTold_339  Q x11 x12 x13 1 x10 x9 1 S) ∧ (¬ ((x8 / 9) - (x8 / 9) / 3 * 3) = 0 → w_L_isTold_339  Q x11 x12 x13 0 x10 x9 1 S))
theorem k_L_isTold_318 (hT : xT X = tb1) (hl : l.stackTraces = false) (C : Cn X k0 p l R s m meth c cL_isTold RL 16 14 321) (hr : meth.sig.returnType = (some .boolean)) (hnm : meth.name = yL_isTold.name) (htab : (∀ x ∈ c.exceptionTable.toList, False))  {x8 : Int32} {x9 : Int32} {x10 : Int32} {x11 : Int32} {x12 : Int32} {x13 : Int32} {S : Sg} (h : w_L_isTold_318  Qa x8 x9 x10 x11 x12 x13 S) : V X p l e R s m args below meth c 16 (QM X below args s S0 ad0 rvI Qa) S0 ad0 S 318 [(0, Value.ref (enc 0 0)), (8, Value.int x8), (9, Value.int x9), (10, Value.int x10), (11, Value.int x11), (12, Value.int x12), (13, Value.int x13)] [] := by
  refine V_aload_n (pc := 318) C dL_isTold_318 rfl 0 rfl ?_
  refine V_iconst (pc := 319) C (v := 1) dL_isTold_319 rfl ?_
  refine V_iload (pc := 320) C dL_isTold_320 2 rfl ?_
  refine V_iload (pc := 322) C dL_isTold_322 3 rfl ?_
  refine V_iload (pc := 324) C dL_isTold_324 1 rfl ?_
  refine V_bipush (pc := 326) C (v := 9) dL_isTold_326 rfl ?_
  refine V_idiv (pc := 328) C dL_isTold_328 (by decide) ?_
  refine V_iconst (pc := 329) C (v := 3) dL_isTold_329 rfl ?_
  refine V_irem (pc := 330) C dL_isTold_330 (by decide) ?_
  refine V_if_ne (pc := 331) (tgt := 338) C dL_isTold_331 (by decide) h (fun h => ?_) (fun h => ?_)
  · refine V_iconst (pc := 338) C (v := 0) dL_isTold_338 rfl ?_
    refine V_sub [4, 5, 6] rfl ?_
    exact k_L_isTold_339 hT hl C hr hnm htab  h
  · refine V_iconst (pc := 334) C (v := 1) dL_isTold_334 rfl ?_
    refine V_goto (pc := 335) (tgt := 339) C dL_isTold_335 (by decide) ?_
    refine V_sub [4, 5, 6] rfl ?_
    exact k_L_isTold_339 hT hl C hr hnm htab  h
def w_L_isTold_317  (Q : Nat → Int32 → Sg → Prop) (x8 : Int32) (x9 : Int32) (x10 : Int32) (x11 : Int32) (x12 : Int32) (x13 : Int32) (y0 : Int32) (y1 : Int32) (S : Sg) : Prop := (vp_in y1 7 ∧ (∀ S50, S50 = su S 103 (nt y1) y0 → w_L_isTold_318  Q x8 x9 x10 x11 x12 x13 S50))
theorem k_L_isTold_317 (hT : xT X = tb1) (hl : l.stackTraces = false) (C : Cn X k0 p l R s m meth c cL_isTold RL 16 14 321) (hr : meth.sig.returnType = (some .boolean)) (hnm : meth.name = yL_isTold.name) (htab : (∀ x ∈ c.exceptionTable.toList, False))  {x8 : Int32} {x9 : Int32} {x10 : Int32} {x11 : Int32} {x12 : Int32} {x13 : Int32} {y0 : Int32} {y1 : Int32} {S : Sg} (h : w_L_isTold_317  Qa x8 x9 x10 x11 x12 x13 y0 y1 S) : V X p l e R s m args below meth c 16 (QM X below args s S0 ad0 rvI Qa) S0 ad0 S 317 [(0, Value.ref (enc 0 0)), (8, Value.int x8), (9, Value.int x9), (10, Value.int x10), (11, Value.int x11), (12, Value.int x12), (13, Value.int x13)] [Value.int y0, Value.int y1, Value.ref (enc 13 3)] := by
  refine V_mst (pc := 317) C hT tb1_arr (n := 7) (c9 := 103) (by decide) rfl rfl rfl h dL_isTold_317 (fun h => V_nx fun S50 e9 => ?_)
  replace h := h S50 e9; clear e9
  refine V_sub [0, 1, 2, 3, 4, 5, 6] rfl ?_
  exact k_L_isTold_318 hT hl C hr hnm htab  h
def w_L_isTold_276  (Q : Nat → Int32 → Sg → Prop) (x8 : Int32) (x9 : Int32) (x10 : Int32) (x11 : Int32) (x12 : Int32) (y0 : Int32) (S : Sg) : Prop := ((x11 = 0 → w_L_isTold_318  Q x8 x9 x10 x11 x12 y0 S) ∧ (¬ x11 = 0 → ((x12 = 0 → w_L_isTold_318  Q x8 x9 x10 x11 x12 y0 S) ∧ (¬ x12 = 0 → (vp_in (4 + x9) 7 ∧ (∀ S51, S51 = su S 103 (nt (4 + x9)) x10 → ((((x8 / 9) - (x8 / 9) / 3 * 3) = 0 → w_L_isTold_317  Q x8 x9 x10 x11 x12 y0 0 (2 + x9) S51) ∧ (¬ ((x8 / 9) - (x8 / 9) / 3 * 3) = 0 → w_L_isTold_317  Q x8 x9 x10 x11 x12 y0 y0 (2 + x9) S51))))))))
theorem k_L_isTold_276 (hT : xT X = tb1) (hl : l.stackTraces = false) (C : Cn X k0 p l R s m meth c cL_isTold RL 16 14 321) (hr : meth.sig.returnType = (some .boolean)) (hnm : meth.name = yL_isTold.name) (htab : (∀ x ∈ c.exceptionTable.toList, False))  {x8 : Int32} {x9 : Int32} {x10 : Int32} {x11 : Int32} {x12 : Int32} {y0 : Int32} {S : Sg} (h : w_L_isTold_276  Qa x8 x9 x10 x11 x12 y0 S) : V X p l e R s m args below meth c 16 (QM X below args s S0 ad0 rvI Qa) S0 ad0 S 276 [(0, Value.ref (enc 0 0)), (1, Value.ref (enc 13 3)), (8, Value.int x8), (9, Value.int x9), (10, Value.int x10), (11, Value.int x11), (12, Value.int x12)] [Value.int y0] := by
  refine V_istore (pc := 276) C dL_isTold_276 (by decide) rfl ?_
  refine V_iload (pc := 278) C dL_isTold_278 6 rfl ?_
  refine V_if_eq (pc := 280) (tgt := 318) C dL_isTold_280 (by decide) h (fun h => ?_) (fun h => ?_)
  · refine V_sub [1, 3, 4, 5, 6, 7, 0] rfl ?_
    exact k_L_isTold_318 hT hl C hr hnm htab  h
  · refine V_iload (pc := 283) C dL_isTold_283 7 rfl ?_
    refine V_if_eq (pc := 285) (tgt := 318) C dL_isTold_285 (by decide) h (fun h => ?_) (fun h => ?_)
    · refine V_sub [1, 3, 4, 5, 6, 7, 0] rfl ?_
      exact k_L_isTold_318 hT hl C hr hnm htab  h
    · refine V_aload_n (pc := 288) C dL_isTold_288 rfl 2 rfl ?_
      refine V_iconst (pc := 289) C (v := 4) dL_isTold_289 rfl ?_
      refine V_iload (pc := 290) C dL_isTold_290 4 rfl ?_
      refine V_iadd (pc := 292) C dL_isTold_292 ?_
      refine V_iload (pc := 293) C dL_isTold_293 5 rfl ?_
      refine V_mst (pc := 295) C hT tb1_arr (n := 7) (c9 := 103) (by decide) rfl rfl rfl h dL_isTold_295 (fun h => V_nx fun S51 e9 => ?_)
      replace h := h S51 e9; clear e9
      refine V_aload_n (pc := 296) C dL_isTold_296 rfl 2 rfl ?_
      refine V_iconst (pc := 297) C (v := 2) dL_isTold_297 rfl ?_
      refine V_iload (pc := 298) C dL_isTold_298 4 rfl ?_
      refine V_iadd (pc := 300) C dL_isTold_300 ?_
      refine V_iload (pc := 301) C dL_isTold_301 3 rfl ?_
      refine V_bipush (pc := 303) C (v := 9) dL_isTold_303 rfl ?_
      refine V_idiv (pc := 305) C dL_isTold_305 (by decide) ?_
      refine V_iconst (pc := 306) C (v := 3) dL_isTold_306 rfl ?_
      refine V_irem (pc := 307) C dL_isTold_307 (by decide) ?_
      refine V_if_ne (pc := 308) (tgt := 315) C dL_isTold_308 (by decide) h (fun h => ?_) (fun h => ?_)
      · refine V_iload (pc := 315) C dL_isTold_315 0 rfl ?_
        refine V_sub [1, 3, 4, 5, 6, 7, 0] rfl ?_
        exact k_L_isTold_317 hT hl C hr hnm htab  h
      · refine V_iconst (pc := 311) C (v := 0) dL_isTold_311 rfl ?_
        refine V_goto (pc := 312) (tgt := 317) C dL_isTold_312 (by decide) ?_
        refine V_sub [1, 3, 4, 5, 6, 7, 0] rfl ?_
        exact k_L_isTold_317 hT hl C hr hnm htab  h
def w_L_isTold_259  (Q : Nat → Int32 → Sg → Prop) (x8 : Int32) (x9 : Int32) (x10 : Int32) (x11 : Int32) (y0 : Int32) (S : Sg) : Prop := ((x11 = 0 → w_L_isTold_276  Q x8 x9 x10 x11 y0 0 S) ∧ (¬ x11 = 0 → (vp_in (2 + x9) 7 ∧ w_L_isTold_276  Q x8 x9 x10 x11 y0 (S.1 103 (nt (2 + x9))) S)))
theorem k_L_isTold_259 (hT : xT X = tb1) (hl : l.stackTraces = false) (C : Cn X k0 p l R s m meth c cL_isTold RL 16 14 321) (hr : meth.sig.returnType = (some .boolean)) (hnm : meth.name = yL_isTold.name) (htab : (∀ x ∈ c.exceptionTable.toList, False))  {x8 : Int32} {x9 : Int32} {x10 : Int32} {x11 : Int32} {y0 : Int32} {S : Sg} (h : w_L_isTold_259  Qa x8 x9 x10 x11 y0 S) : V X p l e R s m args below meth c 16 (QM X below args s S0 ad0 rvI Qa) S0 ad0 S 259 [(0, Value.ref (enc 0 0)), (1, Value.ref (enc 13 3)), (8, Value.int x8), (9, Value.int x9), (10, Value.int x10), (11, Value.int x11)] [Value.int y0] := by
  refine V_istore (pc := 259) C dL_isTold_259 (by decide) rfl ?_
  refine V_iload (pc := 261) C dL_isTold_261 6 rfl ?_
  refine V_if_eq (pc := 263) (tgt := 275) C dL_isTold_263 (by decide) h (fun h => ?_) (fun h => ?_)
  · refine V_iconst (pc := 275) C (v := 0) dL_isTold_275 rfl ?_
    refine V_sub [1, 2, 3, 4, 5, 6, 0] rfl ?_
    exact k_L_isTold_276 hT hl C hr hnm htab  h
  · refine V_aload_n (pc := 266) C dL_isTold_266 rfl 2 rfl ?_
    refine V_iconst (pc := 267) C (v := 2) dL_isTold_267 rfl ?_
    refine V_iload (pc := 268) C dL_isTold_268 4 rfl ?_
    refine V_iadd (pc := 270) C dL_isTold_270 ?_
    refine V_mld (pc := 271) C hT tb1_arr (n := 7) (c9 := 103) rfl rfl rfl h dL_isTold_271 (fun h => ?_)
    refine V_goto (pc := 272) (tgt := 276) C dL_isTold_272 (by decide) ?_
    refine V_sub [1, 2, 3, 4, 5, 6, 0] rfl ?_
    exact k_L_isTold_276 hT hl C hr hnm htab  h
def w_L_isTold_258  (Q : Nat → Int32 → Sg → Prop) (x8 : Int32) (x9 : Int32) (x10 : Int32) (x11 : Int32) (S : Sg) : Prop := w_L_isTold_259  Q x8 x9 x10 x11 0 S
theorem k_L_isTold_258 (hT : xT X = tb1) (hl : l.stackTraces = false) (C : Cn X k0 p l R s m meth c cL_isTold RL 16 14 321) (hr : meth.sig.returnType = (some .boolean)) (hnm : meth.name = yL_isTold.name) (htab : (∀ x ∈ c.exceptionTable.toList, False))  {x8 : Int32} {x9 : Int32} {x10 : Int32} {x11 : Int32} {S : Sg} (h : w_L_isTold_258  Qa x8 x9 x10 x11 S) : V X p l e R s m args below meth c 16 (QM X below args s S0 ad0 rvI Qa) S0 ad0 S 258 [(0, Value.ref (enc 0 0)), (1, Value.ref (enc 13 3)), (8, Value.int x8), (9, Value.int x9), (10, Value.int x10), (11, Value.int x11)] [] := by
  refine V_iconst (pc := 258) C (v := 0) dL_isTold_258 rfl ?_
  refine V_sub [0, 1, 2, 3, 4, 5] rfl ?_
  exact k_L_isTold_259 hT hl C hr hnm htab  h
def w_L_isTold_240  (Q : Nat → Int32 → Sg → Prop) (x8 : Int32) (x9 : Int32) (x10 : Int32) (y0 : Int32) (S : Sg) : Prop := ((x10 ≤ 0 → w_L_isTold_258  Q x8 x9 x10 y0 S) ∧ (¬ x10 ≤ 0 → ((100001 ≤ x10 → w_L_isTold_258  Q x8 x9 x10 y0 S) ∧ (¬ 100001 ≤ x10 → w_L_isTold_259  Q x8 x9 x10 y0 1 S))))
theorem k_L_isTold_240 (hT : xT X = tb1) (hl : l.stackTraces = false) (C : Cn X k0 p l R s m meth c cL_isTold RL 16 14 321) (hr : meth.sig.returnType = (some .boolean)) (hnm : meth.name = yL_isTold.name) (htab : (∀ x ∈ c.exceptionTable.toList, False))  {x8 : Int32} {x9 : Int32} {x10 : Int32} {y0 : Int32} {S : Sg} (h : w_L_isTold_240  Qa x8 x9 x10 y0 S) : V X p l e R s m args below meth c 16 (QM X below args s S0 ad0 rvI Qa) S0 ad0 S 240 [(0, Value.ref (enc 0 0)), (1, Value.ref (enc 13 3)), (8, Value.int x8), (9, Value.int x9), (10, Value.int x10)] [Value.int y0] := by
  refine V_istore (pc := 240) C dL_isTold_240 (by decide) rfl ?_
  refine V_iload (pc := 242) C dL_isTold_242 5 rfl ?_
  refine V_if_le (pc := 244) (tgt := 258) C dL_isTold_244 (by decide) h (fun h => ?_) (fun h => ?_)
  · refine V_sub [1, 2, 3, 4, 5, 0] rfl ?_
    exact k_L_isTold_258 hT hl C hr hnm htab  h
  · refine V_iload (pc := 247) C dL_isTold_247 5 rfl ?_
    refine V_ldc (pc := 249) C g883 dL_isTold_249 ?_
    refine V_icmp_ge (pc := 251) (tgt := 258) C dL_isTold_251 (by decide) h (fun h => ?_) (fun h => ?_)
    · refine V_sub [1, 2, 3, 4, 5, 0] rfl ?_
      exact k_L_isTold_258 hT hl C hr hnm htab  h
    · refine V_iconst (pc := 254) C (v := 1) dL_isTold_254 rfl ?_
      refine V_goto (pc := 255) (tgt := 259) C dL_isTold_255 (by decide) ?_
      refine V_sub [1, 2, 3, 4, 5, 0] rfl ?_
      exact k_L_isTold_259 hT hl C hr hnm htab  h
def w_L_isTold_224  (Q : Nat → Int32 → Sg → Prop) (x8 : Int32) (x9 : Int32) (y0 : Int32) (S : Sg) : Prop := (vp_in 2 8 ∧ (((S.1 112 (nt 2)) ≤ x9 → w_L_isTold_240  Q x8 x9 y0 0 S) ∧ (¬ (S.1 112 (nt 2)) ≤ x9 → w_L_isTold_240  Q x8 x9 y0 1 S)))
theorem k_L_isTold_224 (hT : xT X = tb1) (hl : l.stackTraces = false) (C : Cn X k0 p l R s m meth c cL_isTold RL 16 14 321) (hr : meth.sig.returnType = (some .boolean)) (hnm : meth.name = yL_isTold.name) (htab : (∀ x ∈ c.exceptionTable.toList, False))  {x8 : Int32} {x9 : Int32} {y0 : Int32} {S : Sg} (h : w_L_isTold_224  Qa x8 x9 y0 S) : V X p l e R s m args below meth c 16 (QM X below args s S0 ad0 rvI Qa) S0 ad0 S 224 [(0, Value.ref (enc 0 0)), (1, Value.ref (enc 13 3)), (5, Value.ref (enc 13 12)), (8, Value.int x8), (9, Value.int x9)] [Value.int y0] := by
  refine V_istore (pc := 224) C dL_isTold_224 (by decide) rfl ?_
  refine V_iload (pc := 226) C dL_isTold_226 5 rfl ?_
  refine V_aload (pc := 228) C dL_isTold_228 3 rfl ?_
  refine V_iconst (pc := 230) C (v := 2) dL_isTold_230 rfl ?_
  refine V_mld (pc := 231) C hT tb1_arr (n := 8) (c9 := 112) rfl rfl rfl h dL_isTold_231 (fun h => ?_)
  refine V_icmp_ge (pc := 232) (tgt := 239) C dL_isTold_232 (by decide) h (fun h => ?_) (fun h => ?_)
  · refine V_iconst (pc := 239) C (v := 0) dL_isTold_239 rfl ?_
    refine V_sub [1, 2, 4, 5, 0] rfl ?_
    exact k_L_isTold_240 hT hl C hr hnm htab  h
  · refine V_iconst (pc := 235) C (v := 1) dL_isTold_235 rfl ?_
    refine V_goto (pc := 236) (tgt := 240) C dL_isTold_236 (by decide) ?_
    refine V_sub [1, 2, 4, 5, 0] rfl ?_
    exact k_L_isTold_240 hT hl C hr hnm htab  h
def w_L_isTold_168  (Q : Nat → Int32 → Sg → Prop) (y0 : Int32) (y1 : Int32) (S : Sg) : Prop := ((y1 = y0 → Q 0 1 S) ∧ (¬ y1 = y0 → Q 0 0 S))
theorem k_L_isTold_168 (hT : xT X = tb1) (hl : l.stackTraces = false) (C : Cn X k0 p l R s m meth c cL_isTold RL 16 14 321) (hr : meth.sig.returnType = (some .boolean)) (hnm : meth.name = yL_isTold.name) (htab : (∀ x ∈ c.exceptionTable.toList, False))  {y0 : Int32} {y1 : Int32} {S : Sg} (h : w_L_isTold_168  Qa y0 y1 S) : V X p l e R s m args below meth c 16 (QM X below args s S0 ad0 rvI Qa) S0 ad0 S 168 [] [Value.int y0, Value.int y1] := by
  refine V_icmp_ne (pc := 168) (tgt := 175) C dL_isTold_168 (by decide) h (fun h => ?_) (fun h => ?_)
  · refine V_iconst (pc := 175) C (v := 0) dL_isTold_175 rfl ?_
    exact V_zret (pc := 176) C hr (by decide) rfl h dL_isTold_176
  · refine V_iconst (pc := 171) C (v := 1) dL_isTold_171 rfl ?_
    refine V_goto (pc := 172) (tgt := 176) C dL_isTold_172 (by decide) ?_
    exact V_zret (pc := 176) C hr (by decide) rfl h dL_isTold_176
def w_L_isTold_140  (Q : Nat → Int32 → Sg → Prop) (x9 : Int32) (x10 : Int32) (x11 : Int32) (S : Sg) : Prop := (w_L_does 0 x9 x10 0 0 0 S (fun k54 v53 S52 => (k54 = 0 → ((x11 = 0 → w_L_isTold_168  Q (-2000000) v53 S52) ∧ (¬ x11 = 0 → (vp_in 2 8 ∧ w_L_isTold_168  Q ((S52.1 112 (nt 2)) - 1) v53 S52)))) ∧ (¬ k54 = 0 → Q k54 0 S52)))
theorem k_L_isTold_140 (hT : xT X = tb1) (hl : l.stackTraces = false) (C : Cn X k0 p l R s m meth c cL_isTold RL 16 14 321) (hr : meth.sig.returnType = (some .boolean)) (hnm : meth.name = yL_isTold.name) (htab : (∀ x ∈ c.exceptionTable.toList, False))  {x9 : Int32} {x10 : Int32} {x11 : Int32} {S : Sg} (h : w_L_isTold_140  Qa x9 x10 x11 S) : V X p l e R s m args below meth c 16 (QM X below args s S0 ad0 rvI Qa) S0 ad0 S 140 [(0, Value.ref (enc 0 0)), (5, Value.ref (enc 13 12)), (9, Value.int x9), (10, Value.int x10), (11, Value.int x11)] [] := by
  refine V_aload_n (pc := 140) C dL_isTold_140 rfl 0 rfl ?_
  refine V_iconst (pc := 141) C (v := 0) dL_isTold_141 rfl ?_
  refine V_iload (pc := 142) C dL_isTold_142 2 rfl ?_
  refine V_iload (pc := 144) C dL_isTold_144 3 rfl ?_
  refine V_iconst (pc := 146) C (v := 0) dL_isTold_146 rfl ?_
  refine V_iconst (pc := 147) C (v := 0) dL_isTold_147 rfl ?_
  refine V_iconst (pc := 148) C (v := 0) dL_isTold_148 rfl ?_
  refine V_callH (pc := 149) C (ct_L_does hT hl h) g119 g120 g121 g32 ⟨by decide, by decide, pl_L_does⟩ ⟨by decide, by decide⟩ (rest := []) rfl (le8 rfl) dL_isTold_149 (fun v53 S52 h => ?_) (fun k9 S9 hk h => VX_out C htab hk (h.2 (by omega)))
  replace h := h.1 rfl
  refine V_st (st' := [Value.int v53]) rfl ?_
  refine V_iload (pc := 152) C dL_isTold_152 4 rfl ?_
  refine V_if_eq (pc := 154) (tgt := 166) C dL_isTold_154 (by decide) h (fun h => ?_) (fun h => ?_)
  · refine V_ldc (pc := 166) C g780 dL_isTold_166 ?_
    refine V_sub [] rfl ?_
    exact k_L_isTold_168 hT hl C hr hnm htab  h
  · refine V_aload (pc := 157) C dL_isTold_157 1 rfl ?_
    refine V_iconst (pc := 159) C (v := 2) dL_isTold_159 rfl ?_
    refine V_mld (pc := 160) C hT tb1_arr (n := 8) (c9 := 112) rfl rfl rfl h dL_isTold_160 (fun h => ?_)
    refine V_iconst (pc := 161) C (v := 1) dL_isTold_161 rfl ?_
    refine V_isub (pc := 162) C dL_isTold_162 ?_
    refine V_goto (pc := 163) (tgt := 168) C dL_isTold_163 (by decide) ?_
    refine V_sub [] rfl ?_
    exact k_L_isTold_168 hT hl C hr hnm htab  h
def w_L_isTold_100  (Q : Nat → Int32 → Sg → Prop) (x9 : Int32) (x10 : Int32) (y0 : Int32) (S : Sg) : Prop := ((y0 = 0 → w_L_isTold_140  Q x9 x10 y0 S) ∧ (¬ y0 = 0 → (vp_in 2 8 ∧ (vp_in (S.1 112 (nt 2)) 7 ∧ (∀ S55, S55 = su S 103 (nt (S.1 112 (nt 2))) (x9 + (8 * x10)) → (vp_in 2 8 ∧ (vp_in (4 + (S55.1 112 (nt 2))) 7 ∧ (∀ S56, S56 = su S55 103 (nt (4 + (S55.1 112 (nt 2)))) 5000 → (vp_in 2 8 ∧ (vp_in 2 8 ∧ (∀ S57, S57 = su S56 112 (nt 2) ((S56.1 112 (nt 2)) + 1) → w_L_isTold_140  Q x9 x10 y0 S57)))))))))))
theorem k_L_isTold_100 (hT : xT X = tb1) (hl : l.stackTraces = false) (C : Cn X k0 p l R s m meth c cL_isTold RL 16 14 321) (hr : meth.sig.returnType = (some .boolean)) (hnm : meth.name = yL_isTold.name) (htab : (∀ x ∈ c.exceptionTable.toList, False))  {x9 : Int32} {x10 : Int32} {y0 : Int32} {S : Sg} (h : w_L_isTold_100  Qa x9 x10 y0 S) : V X p l e R s m args below meth c 16 (QM X below args s S0 ad0 rvI Qa) S0 ad0 S 100 [(0, Value.ref (enc 0 0)), (1, Value.ref (enc 13 3)), (5, Value.ref (enc 13 12)), (9, Value.int x9), (10, Value.int x10)] [Value.int y0] := by
  refine V_istore (pc := 100) C dL_isTold_100 (by decide) rfl ?_
  refine V_iload (pc := 102) C dL_isTold_102 0 rfl ?_
  refine V_if_eq (pc := 104) (tgt := 140) C dL_isTold_104 (by decide) h (fun h => ?_) (fun h => ?_)
  · refine V_sub [1, 3, 4, 5, 0] rfl ?_
    exact k_L_isTold_140 hT hl C hr hnm htab  h
  · refine V_aload_n (pc := 107) C dL_isTold_107 rfl 2 rfl ?_
    refine V_aload (pc := 108) C dL_isTold_108 3 rfl ?_
    refine V_iconst (pc := 110) C (v := 2) dL_isTold_110 rfl ?_
    refine V_mld (pc := 111) C hT tb1_arr (n := 8) (c9 := 112) rfl rfl rfl h dL_isTold_111 (fun h => ?_)
    refine V_iload (pc := 112) C dL_isTold_112 4 rfl ?_
    refine V_bipush (pc := 114) C (v := 8) dL_isTold_114 rfl ?_
    refine V_iload (pc := 116) C dL_isTold_116 5 rfl ?_
    refine V_imul (pc := 118) C dL_isTold_118 ?_
    refine V_iadd (pc := 119) C dL_isTold_119 ?_
    refine V_mst (pc := 120) C hT tb1_arr (n := 7) (c9 := 103) (by decide) rfl rfl rfl h dL_isTold_120 (fun h => V_nx fun S55 e9 => ?_)
    replace h := h S55 e9; clear e9
    refine V_aload_n (pc := 121) C dL_isTold_121 rfl 2 rfl ?_
    refine V_iconst (pc := 122) C (v := 4) dL_isTold_122 rfl ?_
    refine V_aload (pc := 123) C dL_isTold_123 3 rfl ?_
    refine V_iconst (pc := 125) C (v := 2) dL_isTold_125 rfl ?_
    refine V_mld (pc := 126) C hT tb1_arr (n := 8) (c9 := 112) rfl rfl rfl h dL_isTold_126 (fun h => ?_)
    refine V_iadd (pc := 127) C dL_isTold_127 ?_
    refine V_sipush (pc := 128) C (v := 5000) dL_isTold_128 rfl ?_
    refine V_mst (pc := 131) C hT tb1_arr (n := 7) (c9 := 103) (by decide) rfl rfl rfl h dL_isTold_131 (fun h => V_nx fun S56 e9 => ?_)
    replace h := h S56 e9; clear e9
    refine V_aload (pc := 132) C dL_isTold_132 3 rfl ?_
    refine V_iconst (pc := 134) C (v := 2) dL_isTold_134 rfl ?_
    refine V_dup2 (pc := 135) C dL_isTold_135 rfl rfl ?_
    refine V_mld (pc := 136) C hT tb1_arr (n := 8) (c9 := 112) rfl rfl rfl h dL_isTold_136 (fun h => ?_)
    refine V_iconst (pc := 137) C (v := 1) dL_isTold_137 rfl ?_
    refine V_iadd (pc := 138) C dL_isTold_138 ?_
    refine V_mst (pc := 139) C hT tb1_arr (n := 8) (c9 := 112) (by decide) rfl rfl rfl h dL_isTold_139 (fun h => V_nx fun S57 e9 => ?_)
    replace h := h S57 e9; clear e9
    refine V_sub [1, 3, 4, 5, 0] rfl ?_
    exact k_L_isTold_140 hT hl C hr hnm htab  h
def w_L_isTold_99  (Q : Nat → Int32 → Sg → Prop) (x9 : Int32) (x10 : Int32) (S : Sg) : Prop := w_L_isTold_100  Q x9 x10 0 S
theorem k_L_isTold_99 (hT : xT X = tb1) (hl : l.stackTraces = false) (C : Cn X k0 p l R s m meth c cL_isTold RL 16 14 321) (hr : meth.sig.returnType = (some .boolean)) (hnm : meth.name = yL_isTold.name) (htab : (∀ x ∈ c.exceptionTable.toList, False))  {x9 : Int32} {x10 : Int32} {S : Sg} (h : w_L_isTold_99  Qa x9 x10 S) : V X p l e R s m args below meth c 16 (QM X below args s S0 ad0 rvI Qa) S0 ad0 S 99 [(0, Value.ref (enc 0 0)), (1, Value.ref (enc 13 3)), (5, Value.ref (enc 13 12)), (9, Value.int x9), (10, Value.int x10)] [] := by
  refine V_iconst (pc := 99) C (v := 0) dL_isTold_99 rfl ?_
  refine V_sub [0, 1, 2, 3, 4] rfl ?_
  exact k_L_isTold_100 hT hl C hr hnm htab  h
def w_L_isTold_71  (Q : Nat → Int32 → Sg → Prop) (x9 : Int32) (y0 : Int32) (S : Sg) : Prop := ((x9 ≤ 0 → w_L_isTold_99  Q x9 y0 S) ∧ (¬ x9 ≤ 0 → ((4 ≤ x9 → w_L_isTold_99  Q x9 y0 S) ∧ (¬ 4 ≤ x9 → ((y0 ≤ 0 → w_L_isTold_99  Q x9 y0 S) ∧ (¬ y0 ≤ 0 → ((5 ≤ y0 → w_L_isTold_99  Q x9 y0 S) ∧ (¬ 5 ≤ y0 → w_L_isTold_100  Q x9 y0 1 S))))))))
theorem k_L_isTold_71 (hT : xT X = tb1) (hl : l.stackTraces = false) (C : Cn X k0 p l R s m meth c cL_isTold RL 16 14 321) (hr : meth.sig.returnType = (some .boolean)) (hnm : meth.name = yL_isTold.name) (htab : (∀ x ∈ c.exceptionTable.toList, False))  {x9 : Int32} {y0 : Int32} {S : Sg} (h : w_L_isTold_71  Qa x9 y0 S) : V X p l e R s m args below meth c 16 (QM X below args s S0 ad0 rvI Qa) S0 ad0 S 71 [(0, Value.ref (enc 0 0)), (1, Value.ref (enc 13 3)), (5, Value.ref (enc 13 12)), (9, Value.int x9)] [Value.int y0] := by
  refine V_istore (pc := 71) C dL_isTold_71 (by decide) rfl ?_
  refine V_iload (pc := 73) C dL_isTold_73 4 rfl ?_
  refine V_if_le (pc := 75) (tgt := 99) C dL_isTold_75 (by decide) h (fun h => ?_) (fun h => ?_)
  · refine V_sub [1, 2, 3, 4, 0] rfl ?_
    exact k_L_isTold_99 hT hl C hr hnm htab  h
  · refine V_iload (pc := 78) C dL_isTold_78 4 rfl ?_
    refine V_iconst (pc := 80) C (v := 4) dL_isTold_80 rfl ?_
    refine V_icmp_ge (pc := 81) (tgt := 99) C dL_isTold_81 (by decide) h (fun h => ?_) (fun h => ?_)
    · refine V_sub [1, 2, 3, 4, 0] rfl ?_
      exact k_L_isTold_99 hT hl C hr hnm htab  h
    · refine V_iload (pc := 84) C dL_isTold_84 0 rfl ?_
      refine V_if_le (pc := 86) (tgt := 99) C dL_isTold_86 (by decide) h (fun h => ?_) (fun h => ?_)
      · refine V_sub [1, 2, 3, 4, 0] rfl ?_
        exact k_L_isTold_99 hT hl C hr hnm htab  h
      · refine V_iload (pc := 89) C dL_isTold_89 0 rfl ?_
        refine V_iconst (pc := 91) C (v := 5) dL_isTold_91 rfl ?_
        refine V_icmp_ge (pc := 92) (tgt := 99) C dL_isTold_92 (by decide) h (fun h => ?_) (fun h => ?_)
        · refine V_sub [1, 2, 3, 4, 0] rfl ?_
          exact k_L_isTold_99 hT hl C hr hnm htab  h
        · refine V_iconst (pc := 95) C (v := 1) dL_isTold_95 rfl ?_
          refine V_goto (pc := 96) (tgt := 100) C dL_isTold_96 (by decide) ?_
          refine V_sub [1, 2, 3, 4, 0] rfl ?_
          exact k_L_isTold_100 hT hl C hr hnm htab  h
def w_L_isTold_42  (Q : Nat → Int32 → Sg → Prop) (x8 : Int32) (y0 : Int32) (S : Sg) : Prop := (((x8 - x8 / 9 * 9) = 0 → w_L_isTold_71  Q y0 (((x8 / 9) - (x8 / 9) / 2 * 2) * 9) S) ∧ (¬ (x8 - x8 / 9 * 9) = 0 → w_L_isTold_71  Q y0 (1 + (x8 - x8 / 4 * 4)) S))
theorem k_L_isTold_42 (hT : xT X = tb1) (hl : l.stackTraces = false) (C : Cn X k0 p l R s m meth c cL_isTold RL 16 14 321) (hr : meth.sig.returnType = (some .boolean)) (hnm : meth.name = yL_isTold.name) (htab : (∀ x ∈ c.exceptionTable.toList, False))  {x8 : Int32} {y0 : Int32} {S : Sg} (h : w_L_isTold_42  Qa x8 y0 S) : V X p l e R s m args below meth c 16 (QM X below args s S0 ad0 rvI Qa) S0 ad0 S 42 [(0, Value.ref (enc 0 0)), (1, Value.ref (enc 13 3)), (5, Value.ref (enc 13 12)), (8, Value.int x8)] [Value.int y0] := by
  refine V_istore (pc := 42) C dL_isTold_42 (by decide) rfl ?_
  refine V_iload (pc := 44) C dL_isTold_44 4 rfl ?_
  refine V_bipush (pc := 46) C (v := 9) dL_isTold_46 rfl ?_
  refine V_irem (pc := 48) C dL_isTold_48 (by decide) ?_
  refine V_if_ne (pc := 49) (tgt := 65) C dL_isTold_49 (by decide) h (fun h => ?_) (fun h => ?_)
  · refine V_iconst (pc := 65) C (v := 1) dL_isTold_65 rfl ?_
    refine V_iload (pc := 66) C dL_isTold_66 4 rfl ?_
    refine V_iconst (pc := 68) C (v := 4) dL_isTold_68 rfl ?_
    refine V_irem (pc := 69) C dL_isTold_69 (by decide) ?_
    refine V_iadd (pc := 70) C dL_isTold_70 ?_
    refine V_sub [1, 2, 3, 0] rfl ?_
    exact k_L_isTold_71 hT hl C hr hnm htab  h
  · refine V_iload (pc := 52) C dL_isTold_52 4 rfl ?_
    refine V_bipush (pc := 54) C (v := 9) dL_isTold_54 rfl ?_
    refine V_idiv (pc := 56) C dL_isTold_56 (by decide) ?_
    refine V_iconst (pc := 57) C (v := 2) dL_isTold_57 rfl ?_
    refine V_irem (pc := 58) C dL_isTold_58 (by decide) ?_
    refine V_bipush (pc := 59) C (v := 9) dL_isTold_59 rfl ?_
    refine V_imul (pc := 61) C dL_isTold_61 ?_
    refine V_goto (pc := 62) (tgt := 71) C dL_isTold_62 (by decide) ?_
    refine V_sub [1, 2, 3, 0] rfl ?_
    exact k_L_isTold_71 hT hl C hr hnm htab  h
def w_L_isTold (a6 : Int32) (a7 : Int32) (a8 : Int32) (S : Sg) (Q : Nat → Int32 → Sg → Prop) : Prop := ((a6 = 0 → (vp_in 2 8 ∧ (((S.1 112 (nt 2)) = 2 → Q 0 1 S) ∧ (¬ (S.1 112 (nt 2)) = 2 → (((a7 - a7 / 9 * 9) = 0 → w_L_isTold_42  Q a8 (((a7 / 9) - (a7 / 9) / 2 * 2) * 7) S) ∧ (¬ (a7 - a7 / 9 * 9) = 0 → w_L_isTold_42  Q a8 (1 + (a7 - a7 / 3 * 3)) S)))))) ∧ (¬ a6 = 0 → ((a6 = 1 → (vp_in 2 8 ∧ (¬ ((S.1 112 (nt 2)) + 1) = 0 ∧ (∀ v60, v60 = a7 - a7 / ((S.1 112 (nt 2)) + 1) * ((S.1 112 (nt 2)) + 1) → (((a8 - a8 / 9 * 9) = 0 → w_L_isTold_224  Q a8 v60 (((a8 / 9) - (a8 / 9) / 2 * 2) * 100001) S) ∧ (¬ (a8 - a8 / 9 * 9) = 0 → w_L_isTold_224  Q a8 v60 (100 + (a8 - a8 / 900 * 900)) S)))))) ∧ (¬ a6 = 1 → ((a6 = 2 → (vp_in 3 8 ∧ (((S.1 112 (nt 3)) = 3 → Q 0 1 S) ∧ (¬ (S.1 112 (nt 3)) = 3 → (((a7 - a7 / 9 * 9) = 0 → w_L_isTold_424  Q a8 (29 + (((a7 / 9) - (a7 / 9) / 2 * 2) * 212)) S) ∧ (¬ (a7 - a7 / 9 * 9) = 0 → w_L_isTold_424  Q a8 (30 + (a7 - a7 / 70 * 70)) S)))))) ∧ (¬ a6 = 2 → (vp_in 3 8 ∧ (¬ ((S.1 112 (nt 3)) + 1) = 0 ∧ (∀ v58, v58 = a7 - a7 / ((S.1 112 (nt 3)) + 1) * ((S.1 112 (nt 3)) + 1) → (vp_in 2 8 ∧ (¬ ((S.1 112 (nt 2)) + 1) = 0 ∧ (∀ v59, v59 = a8 - a8 / ((S.1 112 (nt 2)) + 1) * ((S.1 112 (nt 2)) + 1) → (vp_in 3 8 ∧ (((S.1 112 (nt 3)) ≤ v58 → w_L_isTold_686  Q a6 a7 a8 v58 v59 S) ∧ (¬ (S.1 112 (nt 3)) ≤ v58 → (vp_in 2 8 ∧ (((S.1 112 (nt 2)) ≤ v59 → w_L_isTold_686  Q a6 a7 a8 v58 v59 S) ∧ (¬ (S.1 112 (nt 2)) ≤ v59 → w_L_isTold_687  Q a6 a7 a8 v58 v59 1 S))))))))))))))))))
theorem ct_L_isTold (hT : xT X = tb1) (hl : l.stackTraces = false) {a6 : Int32} {a7 : Int32} {a8 : Int32} {S : Sg} (h : w_L_isTold a6 a7 a8 S Qa) : CT X k0 l yL_isTold cL_isTold 16 (some .boolean) 14 321 [Value.ref (enc 0 0), Value.ref (enc 13 3), Value.ref (enc 13 4), Value.ref (enc 13 5), Value.ref (enc 13 6), Value.ref (enc 13 12), Value.int a6, Value.int a7, Value.int a8] rvI S Qa :=
  CT_ofV (own := RL) (by decide +kernel) (le8 rfl) rfl hl fun p e R s m args below meth c ad0 C hr hnm htab => by
    refine V_iload (pc := 0) C dL_isTold_0 6 rfl ?_
    refine V_if_ne (pc := 2) (tgt := 177) C dL_isTold_2 (by decide) h (fun h => ?_) (fun h => ?_)
    · refine V_iload (pc := 177) C dL_isTold_177 6 rfl ?_
      refine V_iconst (pc := 179) C (v := 1) dL_isTold_179 rfl ?_
      refine V_icmp_ne (pc := 180) (tgt := 375) C dL_isTold_180 (by decide) h (fun h => ?_) (fun h => ?_)
      · refine V_iload (pc := 375) C dL_isTold_375 6 rfl ?_
        refine V_iconst (pc := 377) C (v := 2) dL_isTold_377 rfl ?_
        refine V_icmp_ne (pc := 378) (tgt := 642) C dL_isTold_378 (by decide) h (fun h => ?_) (fun h => ?_)
        · refine V_iload (pc := 642) C dL_isTold_642 7 rfl ?_
          refine V_aload (pc := 644) C dL_isTold_644 5 rfl ?_
          refine V_iconst (pc := 646) C (v := 3) dL_isTold_646 rfl ?_
          refine V_mld (pc := 647) C hT tb1_arr (n := 8) (c9 := 112) rfl rfl rfl h dL_isTold_647 (fun h => ?_)
          refine V_iconst (pc := 648) C (v := 1) dL_isTold_648 rfl ?_
          refine V_iadd (pc := 649) C dL_isTold_649 ?_
          refine V_irem (pc := 650) C dL_isTold_650 h.1 ?_
          replace h := h.2
          refine V_nI fun v58 e9 => ?_
          replace h := h v58 e9; clear e9
          refine V_istore (pc := 651) C dL_isTold_651 (by decide) rfl ?_
          refine V_iload (pc := 653) C dL_isTold_653 9 rfl ?_
          refine V_aload (pc := 655) C dL_isTold_655 6 rfl ?_
          refine V_iconst (pc := 657) C (v := 2) dL_isTold_657 rfl ?_
          refine V_mld (pc := 658) C hT tb1_arr (n := 8) (c9 := 112) rfl rfl rfl h dL_isTold_658 (fun h => ?_)
          refine V_iconst (pc := 659) C (v := 1) dL_isTold_659 rfl ?_
          refine V_iadd (pc := 660) C dL_isTold_660 ?_
          refine V_irem (pc := 661) C dL_isTold_661 h.1 ?_
          replace h := h.2
          refine V_nI fun v59 e9 => ?_
          replace h := h v59 e9; clear e9
          refine V_istore (pc := 662) C dL_isTold_662 (by decide) rfl ?_
          refine V_iload (pc := 664) C dL_isTold_664 1 rfl ?_
          refine V_aload (pc := 666) C dL_isTold_666 7 rfl ?_
          refine V_iconst (pc := 668) C (v := 3) dL_isTold_668 rfl ?_
          refine V_mld (pc := 669) C hT tb1_arr (n := 8) (c9 := 112) rfl rfl rfl h dL_isTold_669 (fun h => ?_)
          refine V_icmp_ge (pc := 670) (tgt := 686) C dL_isTold_670 (by decide) h (fun h => ?_) (fun h => ?_)
          · refine V_sub [2, 3, 4, 5, 6, 7, 8, 9, 10, 1, 0] rfl ?_
            exact k_L_isTold_686 hT hl C hr hnm htab  h
          · refine V_iload (pc := 673) C dL_isTold_673 0 rfl ?_
            refine V_aload (pc := 675) C dL_isTold_675 7 rfl ?_
            refine V_iconst (pc := 677) C (v := 2) dL_isTold_677 rfl ?_
            refine V_mld (pc := 678) C hT tb1_arr (n := 8) (c9 := 112) rfl rfl rfl h dL_isTold_678 (fun h => ?_)
            refine V_icmp_ge (pc := 679) (tgt := 686) C dL_isTold_679 (by decide) h (fun h => ?_) (fun h => ?_)
            · refine V_sub [2, 3, 4, 5, 6, 7, 8, 9, 10, 1, 0] rfl ?_
              exact k_L_isTold_686 hT hl C hr hnm htab  h
            · refine V_iconst (pc := 682) C (v := 1) dL_isTold_682 rfl ?_
              refine V_goto (pc := 683) (tgt := 687) C dL_isTold_683 (by decide) ?_
              refine V_sub [2, 3, 4, 5, 6, 7, 8, 9, 10, 1, 0] rfl ?_
              exact k_L_isTold_687 hT hl C hr hnm htab  h
        · refine V_aload (pc := 381) C dL_isTold_381 5 rfl ?_
          refine V_iconst (pc := 383) C (v := 3) dL_isTold_383 rfl ?_
          refine V_mld (pc := 384) C hT tb1_arr (n := 8) (c9 := 112) rfl rfl rfl h dL_isTold_384 (fun h => ?_)
          refine V_iconst (pc := 385) C (v := 3) dL_isTold_385 rfl ?_
          refine V_icmp_ne (pc := 386) (tgt := 391) C dL_isTold_386 (by decide) h (fun h => ?_) (fun h => ?_)
          · refine V_iload (pc := 391) C dL_isTold_391 7 rfl ?_
            refine V_bipush (pc := 393) C (v := 9) dL_isTold_393 rfl ?_
            refine V_irem (pc := 395) C dL_isTold_395 (by decide) ?_
            refine V_if_ne (pc := 396) (tgt := 416) C dL_isTold_396 (by decide) h (fun h => ?_) (fun h => ?_)
            · refine V_bipush (pc := 416) C (v := 30) dL_isTold_416 rfl ?_
              refine V_iload (pc := 418) C dL_isTold_418 7 rfl ?_
              refine V_bipush (pc := 420) C (v := 70) dL_isTold_420 rfl ?_
              refine V_irem (pc := 422) C dL_isTold_422 (by decide) ?_
              refine V_iadd (pc := 423) C dL_isTold_423 ?_
              refine V_sub [0, 2, 5, 8] rfl ?_
              exact k_L_isTold_424 hT hl C hr hnm htab  h
            · refine V_bipush (pc := 399) C (v := 29) dL_isTold_399 rfl ?_
              refine V_iload (pc := 401) C dL_isTold_401 7 rfl ?_
              refine V_bipush (pc := 403) C (v := 9) dL_isTold_403 rfl ?_
              refine V_idiv (pc := 405) C dL_isTold_405 (by decide) ?_
              refine V_iconst (pc := 406) C (v := 2) dL_isTold_406 rfl ?_
              refine V_irem (pc := 407) C dL_isTold_407 (by decide) ?_
              refine V_sipush (pc := 408) C (v := 212) dL_isTold_408 rfl ?_
              refine V_imul (pc := 411) C dL_isTold_411 ?_
              refine V_iadd (pc := 412) C dL_isTold_412 ?_
              refine V_goto (pc := 413) (tgt := 424) C dL_isTold_413 (by decide) ?_
              refine V_sub [0, 2, 5, 8] rfl ?_
              exact k_L_isTold_424 hT hl C hr hnm htab  h
          · refine V_iconst (pc := 389) C (v := 1) dL_isTold_389 rfl ?_
            exact V_zret (pc := 390) C hr (by decide) rfl h dL_isTold_390
      · refine V_iload (pc := 183) C dL_isTold_183 7 rfl ?_
        refine V_aload (pc := 185) C dL_isTold_185 5 rfl ?_
        refine V_iconst (pc := 187) C (v := 2) dL_isTold_187 rfl ?_
        refine V_mld (pc := 188) C hT tb1_arr (n := 8) (c9 := 112) rfl rfl rfl h dL_isTold_188 (fun h => ?_)
        refine V_iconst (pc := 189) C (v := 1) dL_isTold_189 rfl ?_
        refine V_iadd (pc := 190) C dL_isTold_190 ?_
        refine V_irem (pc := 191) C dL_isTold_191 h.1 ?_
        replace h := h.2
        refine V_nI fun v60 e9 => ?_
        replace h := h v60 e9; clear e9
        refine V_istore (pc := 192) C dL_isTold_192 (by decide) rfl ?_
        refine V_iload (pc := 194) C dL_isTold_194 9 rfl ?_
        refine V_bipush (pc := 196) C (v := 9) dL_isTold_196 rfl ?_
        refine V_irem (pc := 198) C dL_isTold_198 (by decide) ?_
        refine V_if_ne (pc := 199) (tgt := 215) C dL_isTold_199 (by decide) h (fun h => ?_) (fun h => ?_)
        · refine V_bipush (pc := 215) C (v := 100) dL_isTold_215 rfl ?_
          refine V_iload (pc := 217) C dL_isTold_217 9 rfl ?_
          refine V_sipush (pc := 219) C (v := 900) dL_isTold_219 rfl ?_
          refine V_irem (pc := 222) C dL_isTold_222 (by decide) ?_
          refine V_iadd (pc := 223) C dL_isTold_223 ?_
          refine V_sub [1, 2, 6, 9, 0] rfl ?_
          exact k_L_isTold_224 hT hl C hr hnm htab  h
        · refine V_iload (pc := 202) C dL_isTold_202 9 rfl ?_
          refine V_bipush (pc := 204) C (v := 9) dL_isTold_204 rfl ?_
          refine V_idiv (pc := 206) C dL_isTold_206 (by decide) ?_
          refine V_iconst (pc := 207) C (v := 2) dL_isTold_207 rfl ?_
          refine V_irem (pc := 208) C dL_isTold_208 (by decide) ?_
          refine V_ldc (pc := 209) C g883 dL_isTold_209 ?_
          refine V_imul (pc := 211) C dL_isTold_211 ?_
          refine V_goto (pc := 212) (tgt := 224) C dL_isTold_212 (by decide) ?_
          refine V_sub [1, 2, 6, 9, 0] rfl ?_
          exact k_L_isTold_224 hT hl C hr hnm htab  h
    · refine V_aload (pc := 5) C dL_isTold_5 5 rfl ?_
      refine V_iconst (pc := 7) C (v := 2) dL_isTold_7 rfl ?_
      refine V_mld (pc := 8) C hT tb1_arr (n := 8) (c9 := 112) rfl rfl rfl h dL_isTold_8 (fun h => ?_)
      refine V_iconst (pc := 9) C (v := 2) dL_isTold_9 rfl ?_
      refine V_icmp_ne (pc := 10) (tgt := 15) C dL_isTold_10 (by decide) h (fun h => ?_) (fun h => ?_)
      · refine V_iload (pc := 15) C dL_isTold_15 7 rfl ?_
        refine V_bipush (pc := 17) C (v := 9) dL_isTold_17 rfl ?_
        refine V_irem (pc := 19) C dL_isTold_19 (by decide) ?_
        refine V_if_ne (pc := 20) (tgt := 36) C dL_isTold_20 (by decide) h (fun h => ?_) (fun h => ?_)
        · refine V_iconst (pc := 36) C (v := 1) dL_isTold_36 rfl ?_
          refine V_iload (pc := 37) C dL_isTold_37 7 rfl ?_
          refine V_iconst (pc := 39) C (v := 3) dL_isTold_39 rfl ?_
          refine V_irem (pc := 40) C dL_isTold_40 (by decide) ?_
          refine V_iadd (pc := 41) C dL_isTold_41 ?_
          refine V_sub [0, 1, 5, 8] rfl ?_
          exact k_L_isTold_42 hT hl C hr hnm htab  h
        · refine V_iload (pc := 23) C dL_isTold_23 7 rfl ?_
          refine V_bipush (pc := 25) C (v := 9) dL_isTold_25 rfl ?_
          refine V_idiv (pc := 27) C dL_isTold_27 (by decide) ?_
          refine V_iconst (pc := 28) C (v := 2) dL_isTold_28 rfl ?_
          refine V_irem (pc := 29) C dL_isTold_29 (by decide) ?_
          refine V_bipush (pc := 30) C (v := 7) dL_isTold_30 rfl ?_
          refine V_imul (pc := 32) C dL_isTold_32 ?_
          refine V_goto (pc := 33) (tgt := 42) C dL_isTold_33 (by decide) ?_
          refine V_sub [0, 1, 5, 8] rfl ?_
          exact k_L_isTold_42 hT hl C hr hnm htab  h
      · refine V_iconst (pc := 13) C (v := 1) dL_isTold_13 rfl ?_
        exact V_zret (pc := 14) C hr (by decide) rfl h dL_isTold_14
end LB82
