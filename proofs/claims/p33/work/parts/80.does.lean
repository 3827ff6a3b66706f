section LB80
variable {X : Cx} {p : Program} {l : Launch} {e : Env} {R : Room} {s : State} {m : MethodId} {args : Array Value} {below : List Frame} {meth : Method} {c : Code} {S0 : Sg} {ad0 : Nat → Nat} {Qa : Nat → Int32 → Sg → Prop}
theorem hx_does {S : Sg} {pc : Nat} {lv : List (Nat × Value)} {k : Nat} (C : Cn X k0 p l R s m meth c cL_does RL 8 13 294) (hr : meth.sig.returnType = (some .int)) (htab : c.exceptionTable.toList = tableOf [(0, 339, 340, 78), (0, 339, 345, 81), (0, 339, 350, 84)]) (h0 : covers ⟨0, 339, 340, 78⟩ pc = true) (h1 : covers ⟨0, 339, 345, 81⟩ pc = true) (h2 : covers ⟨0, 339, 350, 84⟩ pc = true) (hk : k = 1 ∨ k = 2 ∨ k = 3) (h : Qa 0 (thq k) S) : VX X p l e R s m args below meth c 8 (QM X below args s S0 ad0 rvI Qa) S0 ad0 S pc lv (exn k) := by
  rcases hk with rfl | rfl | rfl
  · refine VX_catch (k := 1) C htab [⟨0, 339, 340, 78⟩] ⟨0, 339, 345, 81⟩ [⟨0, 339, 350, 84⟩] rfl (List.forall_mem_cons.mpr ⟨⟨by decide, _, g122, nc_13⟩, (fun z hz => absurd hz List.not_mem_nil)⟩) h1 (by decide) g123 ca_1 dL_does_345 (by decide) ?_
    refine V_ldc (pc := 347) C g780 dL_does_347 ?_
    exact V_iret (pc := 349) C hr rfl h dL_does_349
  · refine VX_catch (k := 2) C htab [⟨0, 339, 340, 78⟩, ⟨0, 339, 345, 81⟩] ⟨0, 339, 350, 84⟩ [] rfl (List.forall_mem_cons.mpr ⟨⟨by decide, _, g122, nc_23⟩, (List.forall_mem_cons.mpr ⟨⟨by decide, _, g123, nc_21⟩, (fun z hz => absurd hz List.not_mem_nil)⟩)⟩) h2 (by decide) g124 ca_2 dL_does_350 (by decide) ?_
    refine V_ldc (pc := 352) C g781 dL_does_352 ?_
    exact V_iret (pc := 354) C hr rfl h dL_does_354
  · refine VX_catch (k := 3) C htab [] ⟨0, 339, 340, 78⟩ [⟨0, 339, 345, 81⟩, ⟨0, 339, 350, 84⟩] rfl (fun z hz => absurd hz List.not_mem_nil) h0 (by decide) g122 ca_3 dL_does_340 (by decide) ?_
    refine V_ldc (pc := 342) C g779 dL_does_342 ?_
    exact V_iret (pc := 344) C hr rfl h dL_does_344
theorem pl_L_does : (parseMethodDescriptor yL_does.desc).map (fun d => d.parameters.length) = some 7 := by decide +kernel
def w_L_does_261  (Q : Nat → Int32 → Sg → Prop) (y0 : Int32) (y1 : Int32) (y2 : Int32) (S : Sg) : Prop := (w_X7_join y2 y1 y0 S (fun k3 v2 S1 => (k3 = 0 → Q 0 v2 S1) ∧ (¬ k3 = 0 → Q 0 (thq k3) S1)))
theorem k_L_does_261 (hT : xT X = tb1) (hl : l.stackTraces = false) (C : Cn X k0 p l R s m meth c cL_does RL 8 13 294) (hr : meth.sig.returnType = (some .int)) (hnm : meth.name = yL_does.name) (htab : (c.exceptionTable.toList = tableOf [(0, 339, 340, 78), (0, 339, 345, 81), (0, 339, 350, 84)]))  {y0 : Int32} {y1 : Int32} {y2 : Int32} {S : Sg} (h : w_L_does_261  Qa y0 y1 y2 S) : V X p l e R s m args below meth c 8 (QM X below args s S0 ad0 rvI Qa) S0 ad0 S 261 [] [Value.int y0, Value.int y1, Value.int y2, Value.ref (enc 0 0)] := by
  refine V_callV (pc := 261) C (ct_X7_join hT hl h) g734 g735 g736 g737 g33 ⟨by decide, by decide, pl_X7_join⟩ (enc_ne63 (by decide)) (ct_obj hT rfl (by decide)) rfl ⟨by decide, by decide⟩ (rest := []) rfl (le8 rfl) dL_does_261 (fun v2 S1 h => ?_) (fun k9 S9 hk h => hx_does C hr htab (by decide) (by decide) (by decide) hk (h.2 (by omega)))
  replace h := h.1 rfl
  refine V_st (st' := [Value.int v2]) rfl ?_
  refine V_goto (pc := 264) (tgt := 339) C dL_does_264 (by decide) ?_
  exact V_iret (pc := 339) C hr rfl h dL_does_339
def w_L_does_32  (Q : Nat → Int32 → Sg → Prop) (y0 : Int32) (y1 : Int32) (y2 : Int32) (S : Sg) : Prop := (w_X7_lamp y2 y1 y0 S (fun k6 v5 S4 => (k6 = 0 → Q 0 v5 S4) ∧ (¬ k6 = 0 → Q 0 (thq k6) S4)))
theorem k_L_does_32 (hT : xT X = tb1) (hl : l.stackTraces = false) (C : Cn X k0 p l R s m meth c cL_does RL 8 13 294) (hr : meth.sig.returnType = (some .int)) (hnm : meth.name = yL_does.name) (htab : (c.exceptionTable.toList = tableOf [(0, 339, 340, 78), (0, 339, 345, 81), (0, 339, 350, 84)]))  {y0 : Int32} {y1 : Int32} {y2 : Int32} {S : Sg} (h : w_L_does_32  Qa y0 y1 y2 S) : V X p l e R s m args below meth c 8 (QM X below args s S0 ad0 rvI Qa) S0 ad0 S 32 [] [Value.int y0, Value.int y1, Value.int y2, Value.ref (enc 0 0)] := by
  refine V_callV (pc := 32) C (ct_X7_lamp hT hl h) g308 g309 g310 g311 g33 ⟨by decide, by decide, pl_X7_lamp⟩ (enc_ne63 (by decide)) (ct_obj hT rfl (by decide)) rfl ⟨by decide, by decide⟩ (rest := []) rfl (le8 rfl) dL_does_32 (fun v5 S4 h => ?_) (fun k9 S9 hk h => hx_does C hr htab (by decide) (by decide) (by decide) hk (h.2 (by omega)))
  replace h := h.1 rfl
  refine V_st (st' := [Value.int v5]) rfl ?_
  refine V_goto (pc := 35) (tgt := 339) C dL_does_35 (by decide) ?_
  exact V_iret (pc := 339) C hr rfl h dL_does_339
def w_L_does (a1 : Int32) (a2 : Int32) (a3 : Int32) (a4 : Int32) (a5 : Int32) (a6 : Int32) (S : Sg) (Q : Nat → Int32 → Sg → Prop) : Prop := ((a1 = 0 → (w_X7_hall a2 a3 S (fun k63 v62 S61 => (k63 = 0 → Q 0 v62 S61) ∧ (¬ k63 = 0 → Q 0 (thq k63) S61)))) ∧ (¬ a1 = 0 → ((a1 = 1 → ((a4 = 1 → w_L_does_32  Q 1 a3 a2 S) ∧ (¬ a4 = 1 → w_L_does_32  Q 0 a3 a2 S))) ∧ (¬ a1 = 1 → ((a1 = 2 → (w_X7_film a2 a3 a4 S (fun k60 v59 S58 => (k60 = 0 → Q 0 v59 S58) ∧ (¬ k60 = 0 → Q 0 (thq k60) S58)))) ∧ (¬ a1 = 2 → ((a1 = 3 → (w_X7_key a2 a3 a4 a5 S (fun k57 v56 S55 => (k57 = 0 → Q 0 v56 S55) ∧ (¬ k57 = 0 → Q 0 (thq k57) S55)))) ∧ (¬ a1 = 3 → ((a1 = 4 → (w_X7_spread a2 S (fun k54 v53 S52 => (k54 = 0 → Q 0 v53 S52) ∧ (¬ k54 = 0 → Q 0 (thq k54) S52)))) ∧ (¬ a1 = 4 → ((a1 = 5 → (w_X7_show a2 a3 a4 S (fun k51 v50 S49 => (k51 = 0 → Q 0 v50 S49) ∧ (¬ k51 = 0 → Q 0 (thq k51) S49)))) ∧ (¬ a1 = 5 → ((a1 = 6 → (w_X7_cancel a2 S (fun k48 v47 S46 => (k48 = 0 → Q 0 v47 S46) ∧ (¬ k48 = 0 → Q 0 (thq k48) S46)))) ∧ (¬ a1 = 6 → ((a1 = 7 → (w_X7_breaks a2 S (fun k45 v44 S43 => (k45 = 0 → Q 0 v44 S43) ∧ (¬ k45 = 0 → Q 0 (thq k45) S43)))) ∧ (¬ a1 = 7 → ((a1 = 8 → (w_X7_pass a2 S (fun k42 v41 S40 => (k42 = 0 → Q 0 v41 S40) ∧ (¬ k42 = 0 → Q 0 (thq k42) S40)))) ∧ (¬ a1 = 8 → ((a1 = 9 → (w_X7_hold a2 a3 a4 a5 S (fun k39 v38 S37 => (k39 = 0 → Q 0 v38 S37) ∧ (¬ k39 = 0 → Q 0 (thq k39) S37)))) ∧ (¬ a1 = 9 → ((a1 = 10 → (w_X7_letGo a2 S (fun k36 v35 S34 => (k36 = 0 → Q 0 v35 S34) ∧ (¬ k36 = 0 → Q 0 (thq k36) S34)))) ∧ (¬ a1 = 10 → ((a1 = 11 → (w_X7_buy a2 a3 S (fun k33 v32 S31 => (k33 = 0 → Q 0 v32 S31) ∧ (¬ k33 = 0 → Q 0 (thq k33) S31)))) ∧ (¬ a1 = 11 → ((a1 = 12 → (w_X7_sell a2 a3 a4 a5 S (fun k30 v29 S28 => (k30 = 0 → Q 0 v29 S28) ∧ (¬ k30 = 0 → Q 0 (thq k30) S28)))) ∧ (¬ a1 = 12 → ((a1 = 13 → (w_X7_group a2 a3 a4 S (fun k27 v26 S25 => (k27 = 0 → Q 0 v26 S25) ∧ (¬ k27 = 0 → Q 0 (thq k27) S25)))) ∧ (¬ a1 = 13 → ((a1 = 14 → (w_X7_giveBack a2 S (fun k24 v23 S22 => (k24 = 0 → Q 0 v23 S22) ∧ (¬ k24 = 0 → Q 0 (thq k24) S22)))) ∧ (¬ a1 = 14 → ((a1 = 15 → ((a4 = 1 → w_L_does_261  Q 1 a3 a2 S) ∧ (¬ a4 = 1 → w_L_does_261  Q 0 a3 a2 S))) ∧ (¬ a1 = 15 → ((a1 = 16 → (w_X7_fits a2 a3 a4 S (fun k21 v20 S19 => (k21 = 0 → Q 0 v20 S19) ∧ (¬ k21 = 0 → Q 0 (thq k21) S19)))) ∧ (¬ a1 = 16 → ((a1 = 17 → (w_X7_first a2 a3 a4 S (fun k18 v17 S16 => (k18 = 0 → Q 0 v17 S16) ∧ (¬ k18 = 0 → Q 0 (thq k18) S16)))) ∧ (¬ a1 = 17 → ((a1 = 18 → (w_X7_seat a2 a3 a4 S (fun k15 v14 S13 => (k15 = 0 → Q 0 v14 S13) ∧ (¬ k15 = 0 → Q 0 (thq k15) S13)))) ∧ (¬ a1 = 18 → ((a1 = 19 → (w_X7_price a2 a3 S (fun k12 v11 S10 => (k12 = 0 → Q 0 v11 S10) ∧ (¬ k12 = 0 → Q 0 (thq k12) S10)))) ∧ (¬ a1 = 19 → (w_X7_audit a2 a3 S (fun k9 v8 S7 => (k9 = 0 → Q 0 v8 S7) ∧ (¬ k9 = 0 → Q 0 (thq k9) S7)))))))))))))))))))))))))))))))))))))))))))
theorem ct_L_does (hT : xT X = tb1) (hl : l.stackTraces = false) {a1 : Int32} {a2 : Int32} {a3 : Int32} {a4 : Int32} {a5 : Int32} {a6 : Int32} {S : Sg} (h : w_L_does a1 a2 a3 a4 a5 a6 S Qa) : CTH X k0 l yL_does cL_does 8 (some .int) [(0, 339, 340, 78), (0, 339, 345, 81), (0, 339, 350, 84)] 13 294 [Value.ref (enc 0 0), Value.int a1, Value.int a2, Value.int a3, Value.int a4, Value.int a5, Value.int a6] rvI S Qa :=
  CTH_ofV (own := RL) (by decide +kernel) (le8 rfl) rfl hl fun p e R s m args below meth c ad0 C hr hnm htab => by
    refine V_iload_n (pc := 0) C dL_does_0 rfl 1 rfl ?_
    refine V_if_ne (pc := 1) (tgt := 13) C dL_does_1 (by decide) h (fun h => ?_) (fun h => ?_)
    · refine V_iload_n (pc := 13) C dL_does_13 rfl 1 rfl ?_
      refine V_iconst (pc := 14) C (v := 1) dL_does_14 rfl ?_
      refine V_icmp_ne (pc := 15) (tgt := 38) C dL_does_15 (by decide) h (fun h => ?_) (fun h => ?_)
      · refine V_iload_n (pc := 38) C dL_does_38 rfl 1 rfl ?_
        refine V_iconst (pc := 39) C (v := 2) dL_does_39 rfl ?_
        refine V_icmp_ne (pc := 40) (tgt := 54) C dL_does_40 (by decide) h (fun h => ?_) (fun h => ?_)
        · refine V_iload_n (pc := 54) C dL_does_54 rfl 1 rfl ?_
          refine V_iconst (pc := 55) C (v := 3) dL_does_55 rfl ?_
          refine V_icmp_ne (pc := 56) (tgt := 72) C dL_does_56 (by decide) h (fun h => ?_) (fun h => ?_)
          · refine V_iload_n (pc := 72) C dL_does_72 rfl 1 rfl ?_
            refine V_iconst (pc := 73) C (v := 4) dL_does_73 rfl ?_
            refine V_icmp_ne (pc := 74) (tgt := 85) C dL_does_74 (by decide) h (fun h => ?_) (fun h => ?_)
            · refine V_iload_n (pc := 85) C dL_does_85 rfl 1 rfl ?_
              refine V_iconst (pc := 86) C (v := 5) dL_does_86 rfl ?_
              refine V_icmp_ne (pc := 87) (tgt := 101) C dL_does_87 (by decide) h (fun h => ?_) (fun h => ?_)
              · refine V_iload_n (pc := 101) C dL_does_101 rfl 1 rfl ?_
                refine V_bipush (pc := 102) C (v := 6) dL_does_102 rfl ?_
                refine V_icmp_ne (pc := 104) (tgt := 115) C dL_does_104 (by decide) h (fun h => ?_) (fun h => ?_)
                · refine V_iload_n (pc := 115) C dL_does_115 rfl 1 rfl ?_
                  refine V_bipush (pc := 116) C (v := 7) dL_does_116 rfl ?_
                  refine V_icmp_ne (pc := 118) (tgt := 129) C dL_does_118 (by decide) h (fun h => ?_) (fun h => ?_)
                  · refine V_iload_n (pc := 129) C dL_does_129 rfl 1 rfl ?_
                    refine V_bipush (pc := 130) C (v := 8) dL_does_130 rfl ?_
                    refine V_icmp_ne (pc := 132) (tgt := 143) C dL_does_132 (by decide) h (fun h => ?_) (fun h => ?_)
                    · refine V_iload_n (pc := 143) C dL_does_143 rfl 1 rfl ?_
                      refine V_bipush (pc := 144) C (v := 9) dL_does_144 rfl ?_
                      refine V_icmp_ne (pc := 146) (tgt := 162) C dL_does_146 (by decide) h (fun h => ?_) (fun h => ?_)
                      · refine V_iload_n (pc := 162) C dL_does_162 rfl 1 rfl ?_
                        refine V_bipush (pc := 163) C (v := 10) dL_does_163 rfl ?_
                        refine V_icmp_ne (pc := 165) (tgt := 176) C dL_does_165 (by decide) h (fun h => ?_) (fun h => ?_)
                        · refine V_iload_n (pc := 176) C dL_does_176 rfl 1 rfl ?_
                          refine V_bipush (pc := 177) C (v := 11) dL_does_177 rfl ?_
                          refine V_icmp_ne (pc := 179) (tgt := 191) C dL_does_179 (by decide) h (fun h => ?_) (fun h => ?_)
                          · refine V_iload_n (pc := 191) C dL_does_191 rfl 1 rfl ?_
                            refine V_bipush (pc := 192) C (v := 12) dL_does_192 rfl ?_
                            refine V_icmp_ne (pc := 194) (tgt := 210) C dL_does_194 (by decide) h (fun h => ?_) (fun h => ?_)
                            · refine V_iload_n (pc := 210) C dL_does_210 rfl 1 rfl ?_
                              refine V_bipush (pc := 211) C (v := 13) dL_does_211 rfl ?_
                              refine V_icmp_ne (pc := 213) (tgt := 227) C dL_does_213 (by decide) h (fun h => ?_) (fun h => ?_)
                              · refine V_iload_n (pc := 227) C dL_does_227 rfl 1 rfl ?_
                                refine V_bipush (pc := 228) C (v := 14) dL_does_228 rfl ?_
                                refine V_icmp_ne (pc := 230) (tgt := 241) C dL_does_230 (by decide) h (fun h => ?_) (fun h => ?_)
                                · refine V_iload_n (pc := 241) C dL_does_241 rfl 1 rfl ?_
                                  refine V_bipush (pc := 242) C (v := 15) dL_does_242 rfl ?_
                                  refine V_icmp_ne (pc := 244) (tgt := 267) C dL_does_244 (by decide) h (fun h => ?_) (fun h => ?_)
                                  · refine V_iload_n (pc := 267) C dL_does_267 rfl 1 rfl ?_
                                    refine V_bipush (pc := 268) C (v := 16) dL_does_268 rfl ?_
                                    refine V_icmp_ne (pc := 270) (tgt := 284) C dL_does_270 (by decide) h (fun h => ?_) (fun h => ?_)
                                    · refine V_iload_n (pc := 284) C dL_does_284 rfl 1 rfl ?_
                                      refine V_bipush (pc := 285) C (v := 17) dL_does_285 rfl ?_
                                      refine V_icmp_ne (pc := 287) (tgt := 301) C dL_does_287 (by decide) h (fun h => ?_) (fun h => ?_)
                                      · refine V_iload_n (pc := 301) C dL_does_301 rfl 1 rfl ?_
                                        refine V_bipush (pc := 302) C (v := 18) dL_does_302 rfl ?_
                                        refine V_icmp_ne (pc := 304) (tgt := 318) C dL_does_304 (by decide) h (fun h => ?_) (fun h => ?_)
                                        · refine V_iload_n (pc := 318) C dL_does_318 rfl 1 rfl ?_
                                          refine V_bipush (pc := 319) C (v := 19) dL_does_319 rfl ?_
                                          refine V_icmp_ne (pc := 321) (tgt := 333) C dL_does_321 (by decide) h (fun h => ?_) (fun h => ?_)
                                          · refine V_aload_n (pc := 333) C dL_does_333 rfl 0 rfl ?_
                                            refine V_iload_n (pc := 334) C dL_does_334 rfl 2 rfl ?_
                                            refine V_iload_n (pc := 335) C dL_does_335 rfl 3 rfl ?_
                                            refine V_callV (pc := 336) C (ct_X7_audit hT hl h) g769 g770 g771 g772 g33 ⟨by decide, by decide, pl_X7_audit⟩ (enc_ne63 (by decide)) (ct_obj hT rfl (by decide)) rfl ⟨by decide, by decide⟩ (rest := []) rfl (le8 rfl) dL_does_336 (fun v8 S7 h => ?_) (fun k9 S9 hk h => hx_does C hr htab (by decide) (by decide) (by decide) hk (h.2 (by omega)))
                                            replace h := h.1 rfl
                                            refine V_st (st' := [Value.int v8]) rfl ?_
                                            exact V_iret (pc := 339) C hr rfl h dL_does_339
                                          · refine V_aload_n (pc := 324) C dL_does_324 rfl 0 rfl ?_
                                            refine V_iload_n (pc := 325) C dL_does_325 rfl 2 rfl ?_
                                            refine V_iload_n (pc := 326) C dL_does_326 rfl 3 rfl ?_
                                            refine V_callV (pc := 327) C (ct_X7_price hT hl h) g765 g766 g767 g768 g33 ⟨by decide, by decide, pl_X7_price⟩ (enc_ne63 (by decide)) (ct_obj hT rfl (by decide)) rfl ⟨by decide, by decide⟩ (rest := []) rfl (le8 rfl) dL_does_327 (fun v11 S10 h => ?_) (fun k9 S9 hk h => hx_does C hr htab (by decide) (by decide) (by decide) hk (h.2 (by omega)))
                                            replace h := h.1 rfl
                                            refine V_st (st' := [Value.int v11]) rfl ?_
                                            refine V_goto (pc := 330) (tgt := 339) C dL_does_330 (by decide) ?_
                                            exact V_iret (pc := 339) C hr rfl h dL_does_339
                                        · refine V_aload_n (pc := 307) C dL_does_307 rfl 0 rfl ?_
                                          refine V_iload_n (pc := 308) C dL_does_308 rfl 2 rfl ?_
                                          refine V_iload_n (pc := 309) C dL_does_309 rfl 3 rfl ?_
                                          refine V_iload (pc := 310) C dL_does_310 4 rfl ?_
                                          refine V_callV (pc := 312) C (ct_X7_seat hT hl h) g761 g762 g763 g764 g33 ⟨by decide, by decide, pl_X7_seat⟩ (enc_ne63 (by decide)) (ct_obj hT rfl (by decide)) rfl ⟨by decide, by decide⟩ (rest := []) rfl (le8 rfl) dL_does_312 (fun v14 S13 h => ?_) (fun k9 S9 hk h => hx_does C hr htab (by decide) (by decide) (by decide) hk (h.2 (by omega)))
                                          replace h := h.1 rfl
                                          refine V_st (st' := [Value.int v14]) rfl ?_
                                          refine V_goto (pc := 315) (tgt := 339) C dL_does_315 (by decide) ?_
                                          exact V_iret (pc := 339) C hr rfl h dL_does_339
                                      · refine V_aload_n (pc := 290) C dL_does_290 rfl 0 rfl ?_
                                        refine V_iload_n (pc := 291) C dL_does_291 rfl 2 rfl ?_
                                        refine V_iload_n (pc := 292) C dL_does_292 rfl 3 rfl ?_
                                        refine V_iload (pc := 293) C dL_does_293 4 rfl ?_
                                        refine V_callV (pc := 295) C (ct_X7_first hT hl h) g752 g753 g754 g755 g33 ⟨by decide, by decide, pl_X7_first⟩ (enc_ne63 (by decide)) (ct_obj hT rfl (by decide)) rfl ⟨by decide, by decide⟩ (rest := []) rfl (le8 rfl) dL_does_295 (fun v17 S16 h => ?_) (fun k9 S9 hk h => hx_does C hr htab (by decide) (by decide) (by decide) hk (h.2 (by omega)))
                                        replace h := h.1 rfl
                                        refine V_st (st' := [Value.int v17]) rfl ?_
                                        refine V_goto (pc := 298) (tgt := 339) C dL_does_298 (by decide) ?_
                                        exact V_iret (pc := 339) C hr rfl h dL_does_339
                                    · refine V_aload_n (pc := 273) C dL_does_273 rfl 0 rfl ?_
                                      refine V_iload_n (pc := 274) C dL_does_274 rfl 2 rfl ?_
                                      refine V_iload_n (pc := 275) C dL_does_275 rfl 3 rfl ?_
                                      refine V_iload (pc := 276) C dL_does_276 4 rfl ?_
                                      refine V_callV (pc := 278) C (ct_X7_fits hT hl h) g748 g749 g750 g751 g33 ⟨by decide, by decide, pl_X7_fits⟩ (enc_ne63 (by decide)) (ct_obj hT rfl (by decide)) rfl ⟨by decide, by decide⟩ (rest := []) rfl (le8 rfl) dL_does_278 (fun v20 S19 h => ?_) (fun k9 S9 hk h => hx_does C hr htab (by decide) (by decide) (by decide) hk (h.2 (by omega)))
                                      replace h := h.1 rfl
                                      refine V_st (st' := [Value.int v20]) rfl ?_
                                      refine V_goto (pc := 281) (tgt := 339) C dL_does_281 (by decide) ?_
                                      exact V_iret (pc := 339) C hr rfl h dL_does_339
                                  · refine V_aload_n (pc := 247) C dL_does_247 rfl 0 rfl ?_
                                    refine V_iload_n (pc := 248) C dL_does_248 rfl 2 rfl ?_
                                    refine V_iload_n (pc := 249) C dL_does_249 rfl 3 rfl ?_
                                    refine V_iload (pc := 250) C dL_does_250 4 rfl ?_
                                    refine V_iconst (pc := 252) C (v := 1) dL_does_252 rfl ?_
                                    refine V_icmp_ne (pc := 253) (tgt := 260) C dL_does_253 (by decide) h (fun h => ?_) (fun h => ?_)
                                    · refine V_iconst (pc := 260) C (v := 0) dL_does_260 rfl ?_
                                      refine V_sub [] rfl ?_
                                      exact k_L_does_261 hT hl C hr hnm htab  h
                                    · refine V_iconst (pc := 256) C (v := 1) dL_does_256 rfl ?_
                                      refine V_goto (pc := 257) (tgt := 261) C dL_does_257 (by decide) ?_
                                      refine V_sub [] rfl ?_
                                      exact k_L_does_261 hT hl C hr hnm htab  h
                                · refine V_aload_n (pc := 233) C dL_does_233 rfl 0 rfl ?_
                                  refine V_iload_n (pc := 234) C dL_does_234 rfl 2 rfl ?_
                                  refine V_callV (pc := 235) C (ct_X7_giveBack hT hl h) g720 g721 g722 g723 g33 ⟨by decide, by decide, pl_X7_giveBack⟩ (enc_ne63 (by decide)) (ct_obj hT rfl (by decide)) rfl ⟨by decide, by decide⟩ (rest := []) rfl (le8 rfl) dL_does_235 (fun v23 S22 h => ?_) (fun k9 S9 hk h => hx_does C hr htab (by decide) (by decide) (by decide) hk (h.2 (by omega)))
                                  replace h := h.1 rfl
                                  refine V_st (st' := [Value.int v23]) rfl ?_
                                  refine V_goto (pc := 238) (tgt := 339) C dL_does_238 (by decide) ?_
                                  exact V_iret (pc := 339) C hr rfl h dL_does_339
                              · refine V_aload_n (pc := 216) C dL_does_216 rfl 0 rfl ?_
                                refine V_iload_n (pc := 217) C dL_does_217 rfl 2 rfl ?_
                                refine V_iload_n (pc := 218) C dL_does_218 rfl 3 rfl ?_
                                refine V_iload (pc := 219) C dL_does_219 4 rfl ?_
                                refine V_callV (pc := 221) C (ct_X7_group hT hl h) g702 g703 g704 g705 g33 ⟨by decide, by decide, pl_X7_group⟩ (enc_ne63 (by decide)) (ct_obj hT rfl (by decide)) rfl ⟨by decide, by decide⟩ (rest := []) rfl (le8 rfl) dL_does_221 (fun v26 S25 h => ?_) (fun k9 S9 hk h => hx_does C hr htab (by decide) (by decide) (by decide) hk (h.2 (by omega)))
                                replace h := h.1 rfl
                                refine V_st (st' := [Value.int v26]) rfl ?_
                                refine V_goto (pc := 224) (tgt := 339) C dL_does_224 (by decide) ?_
                                exact V_iret (pc := 339) C hr rfl h dL_does_339
                            · refine V_aload_n (pc := 197) C dL_does_197 rfl 0 rfl ?_
                              refine V_iload_n (pc := 198) C dL_does_198 rfl 2 rfl ?_
                              refine V_iload_n (pc := 199) C dL_does_199 rfl 3 rfl ?_
                              refine V_iload (pc := 200) C dL_does_200 4 rfl ?_
                              refine V_iload (pc := 202) C dL_does_202 5 rfl ?_
                              refine V_callV (pc := 204) C (ct_X7_sell hT hl h) g698 g699 g700 g701 g33 ⟨by decide, by decide, pl_X7_sell⟩ (enc_ne63 (by decide)) (ct_obj hT rfl (by decide)) rfl ⟨by decide, by decide⟩ (rest := []) rfl (le8 rfl) dL_does_204 (fun v29 S28 h => ?_) (fun k9 S9 hk h => hx_does C hr htab (by decide) (by decide) (by decide) hk (h.2 (by omega)))
                              replace h := h.1 rfl
                              refine V_st (st' := [Value.int v29]) rfl ?_
                              refine V_goto (pc := 207) (tgt := 339) C dL_does_207 (by decide) ?_
                              exact V_iret (pc := 339) C hr rfl h dL_does_339
                          · refine V_aload_n (pc := 182) C dL_does_182 rfl 0 rfl ?_
                            refine V_iload_n (pc := 183) C dL_does_183 rfl 2 rfl ?_
                            refine V_iload_n (pc := 184) C dL_does_184 rfl 3 rfl ?_
                            refine V_callV (pc := 185) C (ct_X7_buy hT hl h) g685 g686 g687 g688 g33 ⟨by decide, by decide, pl_X7_buy⟩ (enc_ne63 (by decide)) (ct_obj hT rfl (by decide)) rfl ⟨by decide, by decide⟩ (rest := []) rfl (le8 rfl) dL_does_185 (fun v32 S31 h => ?_) (fun k9 S9 hk h => hx_does C hr htab (by decide) (by decide) (by decide) hk (h.2 (by omega)))
                            replace h := h.1 rfl
                            refine V_st (st' := [Value.int v32]) rfl ?_
                            refine V_goto (pc := 188) (tgt := 339) C dL_does_188 (by decide) ?_
                            exact V_iret (pc := 339) C hr rfl h dL_does_339
                        · refine V_aload_n (pc := 168) C dL_does_168 rfl 0 rfl ?_
                          refine V_iload_n (pc := 169) C dL_does_169 rfl 2 rfl ?_
                          refine V_callV (pc := 170) C (ct_X7_letGo hT hl h) g671 g672 g673 g674 g33 ⟨by decide, by decide, pl_X7_letGo⟩ (enc_ne63 (by decide)) (ct_obj hT rfl (by decide)) rfl ⟨by decide, by decide⟩ (rest := []) rfl (le8 rfl) dL_does_170 (fun v35 S34 h => ?_) (fun k9 S9 hk h => hx_does C hr htab (by decide) (by decide) (by decide) hk (h.2 (by omega)))
                          replace h := h.1 rfl
                          refine V_st (st' := [Value.int v35]) rfl ?_
                          refine V_goto (pc := 173) (tgt := 339) C dL_does_173 (by decide) ?_
                          exact V_iret (pc := 339) C hr rfl h dL_does_339
                      · refine V_aload_n (pc := 149) C dL_does_149 rfl 0 rfl ?_
                        refine V_iload_n (pc := 150) C dL_does_150 rfl 2 rfl ?_
                        refine V_iload_n (pc := 151) C dL_does_151 rfl 3 rfl ?_
                        refine V_iload (pc := 152) C dL_does_152 4 rfl ?_
                        refine V_iload (pc := 154) C dL_does_154 5 rfl ?_
                        refine V_callV (pc := 156) C (ct_X7_hold hT hl h) g635 g636 g637 g638 g33 ⟨by decide, by decide, pl_X7_hold⟩ (enc_ne63 (by decide)) (ct_obj hT rfl (by decide)) rfl ⟨by decide, by decide⟩ (rest := []) rfl (le8 rfl) dL_does_156 (fun v38 S37 h => ?_) (fun k9 S9 hk h => hx_does C hr htab (by decide) (by decide) (by decide) hk (h.2 (by omega)))
                        replace h := h.1 rfl
                        refine V_st (st' := [Value.int v38]) rfl ?_
                        refine V_goto (pc := 159) (tgt := 339) C dL_does_159 (by decide) ?_
                        exact V_iret (pc := 339) C hr rfl h dL_does_339
                    · refine V_aload_n (pc := 135) C dL_does_135 rfl 0 rfl ?_
                      refine V_iload_n (pc := 136) C dL_does_136 rfl 2 rfl ?_
                      refine V_callV (pc := 137) C (ct_X7_pass hT hl h) g564 g565 g566 g567 g33 ⟨by decide, by decide, pl_X7_pass⟩ (enc_ne63 (by decide)) (ct_obj hT rfl (by decide)) rfl ⟨by decide, by decide⟩ (rest := []) rfl (le8 rfl) dL_does_137 (fun v41 S40 h => ?_) (fun k9 S9 hk h => hx_does C hr htab (by decide) (by decide) (by decide) hk (h.2 (by omega)))
                      replace h := h.1 rfl
                      refine V_st (st' := [Value.int v41]) rfl ?_
                      refine V_goto (pc := 140) (tgt := 339) C dL_does_140 (by decide) ?_
                      exact V_iret (pc := 339) C hr rfl h dL_does_339
                  · refine V_aload_n (pc := 121) C dL_does_121 rfl 0 rfl ?_
                    refine V_iload_n (pc := 122) C dL_does_122 rfl 2 rfl ?_
                    refine V_callV (pc := 123) C (ct_X7_breaks hT hl h) g559 g560 g561 g562 g33 ⟨by decide, by decide, pl_X7_breaks⟩ (enc_ne63 (by decide)) (ct_obj hT rfl (by decide)) rfl ⟨by decide, by decide⟩ (rest := []) rfl (le8 rfl) dL_does_123 (fun v44 S43 h => ?_) (fun k9 S9 hk h => hx_does C hr htab (by decide) (by decide) (by decide) hk (h.2 (by omega)))
                    replace h := h.1 rfl
                    refine V_st (st' := [Value.int v44]) rfl ?_
                    refine V_goto (pc := 126) (tgt := 339) C dL_does_126 (by decide) ?_
                    exact V_iret (pc := 339) C hr rfl h dL_does_339
                · refine V_aload_n (pc := 107) C dL_does_107 rfl 0 rfl ?_
                  refine V_iload_n (pc := 108) C dL_does_108 rfl 2 rfl ?_
                  refine V_callV (pc := 109) C (ct_X7_cancel hT hl h) g532 g533 g534 g535 g33 ⟨by decide, by decide, pl_X7_cancel⟩ (enc_ne63 (by decide)) (ct_obj hT rfl (by decide)) rfl ⟨by decide, by decide⟩ (rest := []) rfl (le8 rfl) dL_does_109 (fun v47 S46 h => ?_) (fun k9 S9 hk h => hx_does C hr htab (by decide) (by decide) (by decide) hk (h.2 (by omega)))
                  replace h := h.1 rfl
                  refine V_st (st' := [Value.int v47]) rfl ?_
                  refine V_goto (pc := 112) (tgt := 339) C dL_does_112 (by decide) ?_
                  exact V_iret (pc := 339) C hr rfl h dL_does_339
              · refine V_aload_n (pc := 90) C dL_does_90 rfl 0 rfl ?_
                refine V_iload_n (pc := 91) C dL_does_91 rfl 2 rfl ?_
                refine V_iload_n (pc := 92) C dL_does_92 rfl 3 rfl ?_
                refine V_iload (pc := 93) C dL_does_93 4 rfl ?_
                refine V_callV (pc := 95) C (ct_X7_show hT hl h) g434 g435 g436 g437 g33 ⟨by decide, by decide, pl_X7_show⟩ (enc_ne63 (by decide)) (ct_obj hT rfl (by decide)) rfl ⟨by decide, by decide⟩ (rest := []) rfl (le8 rfl) dL_does_95 (fun v50 S49 h => ?_) (fun k9 S9 hk h => hx_does C hr htab (by decide) (by decide) (by decide) hk (h.2 (by omega)))
                replace h := h.1 rfl
                refine V_st (st' := [Value.int v50]) rfl ?_
                refine V_goto (pc := 98) (tgt := 339) C dL_does_98 (by decide) ?_
                exact V_iret (pc := 339) C hr rfl h dL_does_339
            · refine V_aload_n (pc := 77) C dL_does_77 rfl 0 rfl ?_
              refine V_iload_n (pc := 78) C dL_does_78 rfl 2 rfl ?_
              refine V_callV (pc := 79) C (ct_X7_spread hT hl h) g430 g431 g432 g433 g33 ⟨by decide, by decide, pl_X7_spread⟩ (enc_ne63 (by decide)) (ct_obj hT rfl (by decide)) rfl ⟨by decide, by decide⟩ (rest := []) rfl (le8 rfl) dL_does_79 (fun v53 S52 h => ?_) (fun k9 S9 hk h => hx_does C hr htab (by decide) (by decide) (by decide) hk (h.2 (by omega)))
              replace h := h.1 rfl
              refine V_st (st' := [Value.int v53]) rfl ?_
              refine V_goto (pc := 82) (tgt := 339) C dL_does_82 (by decide) ?_
              exact V_iret (pc := 339) C hr rfl h dL_does_339
          · refine V_aload_n (pc := 59) C dL_does_59 rfl 0 rfl ?_
            refine V_iload_n (pc := 60) C dL_does_60 rfl 2 rfl ?_
            refine V_iload_n (pc := 61) C dL_does_61 rfl 3 rfl ?_
            refine V_iload (pc := 62) C dL_does_62 4 rfl ?_
            refine V_iload (pc := 64) C dL_does_64 5 rfl ?_
            refine V_callV (pc := 66) C (ct_X7_key hT hl h) g396 g397 g398 g399 g33 ⟨by decide, by decide, pl_X7_key⟩ (enc_ne63 (by decide)) (ct_obj hT rfl (by decide)) rfl ⟨by decide, by decide⟩ (rest := []) rfl (le8 rfl) dL_does_66 (fun v56 S55 h => ?_) (fun k9 S9 hk h => hx_does C hr htab (by decide) (by decide) (by decide) hk (h.2 (by omega)))
            replace h := h.1 rfl
            refine V_st (st' := [Value.int v56]) rfl ?_
            refine V_goto (pc := 69) (tgt := 339) C dL_does_69 (by decide) ?_
            exact V_iret (pc := 339) C hr rfl h dL_does_339
        · refine V_aload_n (pc := 43) C dL_does_43 rfl 0 rfl ?_
          refine V_iload_n (pc := 44) C dL_does_44 rfl 2 rfl ?_
          refine V_iload_n (pc := 45) C dL_does_45 rfl 3 rfl ?_
          refine V_iload (pc := 46) C dL_does_46 4 rfl ?_
          refine V_callV (pc := 48) C (ct_X7_film hT hl h) g347 g348 g349 g350 g33 ⟨by decide, by decide, pl_X7_film⟩ (enc_ne63 (by decide)) (ct_obj hT rfl (by decide)) rfl ⟨by decide, by decide⟩ (rest := []) rfl (le8 rfl) dL_does_48 (fun v59 S58 h => ?_) (fun k9 S9 hk h => hx_does C hr htab (by decide) (by decide) (by decide) hk (h.2 (by omega)))
          replace h := h.1 rfl
          refine V_st (st' := [Value.int v59]) rfl ?_
          refine V_goto (pc := 51) (tgt := 339) C dL_does_51 (by decide) ?_
          exact V_iret (pc := 339) C hr rfl h dL_does_339
      · refine V_aload_n (pc := 18) C dL_does_18 rfl 0 rfl ?_
        refine V_iload_n (pc := 19) C dL_does_19 rfl 2 rfl ?_
        refine V_iload_n (pc := 20) C dL_does_20 rfl 3 rfl ?_
        refine V_iload (pc := 21) C dL_does_21 4 rfl ?_
        refine V_iconst (pc := 23) C (v := 1) dL_does_23 rfl ?_
        refine V_icmp_ne (pc := 24) (tgt := 31) C dL_does_24 (by decide) h (fun h => ?_) (fun h => ?_)
        · refine V_iconst (pc := 31) C (v := 0) dL_does_31 rfl ?_
          refine V_sub [] rfl ?_
          exact k_L_does_32 hT hl C hr hnm htab  h
        · refine V_iconst (pc := 27) C (v := 1) dL_does_27 rfl ?_
          refine V_goto (pc := 28) (tgt := 32) C dL_does_28 (by decide) ?_
          refine V_sub [] rfl ?_
          exact k_L_does_32 hT hl C hr hnm htab  h
    · refine V_aload_n (pc := 4) C dL_does_4 rfl 0 rfl ?_
      refine V_iload_n (pc := 5) C dL_does_5 rfl 2 rfl ?_
      refine V_iload_n (pc := 6) C dL_does_6 rfl 3 rfl ?_
      refine V_callV (pc := 7) C (ct_X7_hall hT hl h) g125 g126 g127 g128 g33 ⟨by decide, by decide, pl_X7_hall⟩ (enc_ne63 (by decide)) (ct_obj hT rfl (by decide)) rfl ⟨by decide, by decide⟩ (rest := []) rfl (le8 rfl) dL_does_7 (fun v62 S61 h => ?_) (fun k9 S9 hk h => hx_does C hr htab (by decide) (by decide) (by decide) hk (h.2 (by omega)))
      replace h := h.1 rfl
      refine V_st (st' := [Value.int v62]) rfl ?_
      refine V_goto (pc := 10) (tgt := 339) C dL_does_10 (by decide) ?_
      exact V_iret (pc := 339) C hr rfl h dL_does_339
end LB80
