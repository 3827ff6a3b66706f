theorem f0_X8_0 : FI tb0 12 0 (0, 300, 0) 9 RX8 TX8 43 tyX8 := ⟨CF_X8, ⟨_, rfl, rfl, by decide⟩, by decide, by decide, Or.inl rfl⟩
theorem f0_X8_1 : FI tb0 12 1 (0, 301, 0) 9 RX8 TX8 43 tyX8 := ⟨CF_X8, ⟨_, rfl, rfl, by decide⟩, by decide, by decide, Or.inl rfl⟩
theorem f0_X8_2 : FI tb0 12 2 (0, 302, 0) 9 RX8 TX8 43 tyX8 := ⟨CF_X8, ⟨_, rfl, rfl, by decide⟩, by decide, by decide, Or.inl rfl⟩
theorem f0_X8_3 : FI tb0 12 3 (2, 203, 13) 9 RX8 TX8 43 tyX8 := ⟨CF_X8, ⟨_, rfl, rfl, by decide⟩, by decide, by decide, Or.inl rfl⟩
theorem f0_X8_4 : FI tb0 12 4 (2, 204, 13) 9 RX8 TX8 43 tyX8 := ⟨CF_X8, ⟨_, rfl, rfl, by decide⟩, by decide, by decide, Or.inl rfl⟩
theorem f0_X8_5 : FI tb0 12 5 (2, 205, 13) 9 RX8 TX8 43 tyX8 := ⟨CF_X8, ⟨_, rfl, rfl, by decide⟩, by decide, by decide, Or.inl rfl⟩
theorem f0_X8_6 : FI tb0 12 6 (2, 206, 13) 9 RX8 TX8 43 tyX8 := ⟨CF_X8, ⟨_, rfl, rfl, by decide⟩, by decide, by decide, Or.inl rfl⟩
theorem f0_X8_7 : FI tb0 12 7 (0, 307, 0) 9 RX8 TX8 43 tyX8 := ⟨CF_X8, ⟨_, rfl, rfl, by decide⟩, by decide, by decide, Or.inl rfl⟩
theorem f0_X8_8 : FI tb0 12 8 (2, 208, 13) 9 RX8 TX8 43 tyX8 := ⟨CF_X8, ⟨_, rfl, rfl, by decide⟩, by decide, by decide, Or.inl rfl⟩
theorem f0_X8_9 : FI tb0 12 9 (2, 209, 13) 9 RX8 TX8 43 tyX8 := ⟨CF_X8, ⟨_, rfl, rfl, by decide⟩, by decide, by decide, Or.inl rfl⟩
theorem f0_X8_10 : FI tb0 12 10 (2, 210, 13) 9 RX8 TX8 43 tyX8 := ⟨CF_X8, ⟨_, rfl, rfl, by decide⟩, by decide, by decide, Or.inl rfl⟩
theorem f0_X8_11 : FI tb0 12 11 (2, 211, 13) 9 RX8 TX8 43 tyX8 := ⟨CF_X8, ⟨_, rfl, rfl, by decide⟩, by decide, by decide, Or.inl rfl⟩
theorem f0_X8_12 : FI tb0 12 12 (2, 212, 13) 9 RX8 TX8 43 tyX8 := ⟨CF_X8, ⟨_, rfl, rfl, by decide⟩, by decide, by decide, Or.inl rfl⟩
theorem f0_X8_13 : FI tb0 12 13 (2, 213, 13) 9 RX8 TX8 43 tyX8 := ⟨CF_X8, ⟨_, rfl, rfl, by decide⟩, by decide, by decide, Or.inl rfl⟩
theorem f0_X8_14 : FI tb0 12 14 (2, 214, 13) 9 RX8 TX8 43 tyX8 := ⟨CF_X8, ⟨_, rfl, rfl, by decide⟩, by decide, by decide, Or.inl rfl⟩
theorem f0_X8_15 : FI tb0 12 15 (2, 215, 13) 9 RX8 TX8 43 tyX8 := ⟨CF_X8, ⟨_, rfl, rfl, by decide⟩, by decide, by decide, Or.inl rfl⟩
theorem f0_X8_16 : FI tb0 12 16 (0, 316, 0) 9 RX8 TX8 43 tyX8 := ⟨CF_X8, ⟨_, rfl, rfl, by decide⟩, by decide, by decide, Or.inl rfl⟩
theorem f0_X8_17 : FI tb0 12 17 (2, 217, 13) 9 RX8 TX8 43 tyX8 := ⟨CF_X8, ⟨_, rfl, rfl, by decide⟩, by decide, by decide, Or.inl rfl⟩
theorem f0_X8_18 : FI tb0 12 18 (2, 218, 13) 9 RX8 TX8 43 tyX8 := ⟨CF_X8, ⟨_, rfl, rfl, by decide⟩, by decide, by decide, Or.inl rfl⟩
theorem f0_X8_19 : FI tb0 12 19 (2, 219, 13) 9 RX8 TX8 43 tyX8 := ⟨CF_X8, ⟨_, rfl, rfl, by decide⟩, by decide, by decide, Or.inl rfl⟩
theorem f0_X8_20 : FI tb0 12 20 (2, 220, 13) 9 RX8 TX8 43 tyX8 := ⟨CF_X8, ⟨_, rfl, rfl, by decide⟩, by decide, by decide, Or.inl rfl⟩
theorem f0_X8_21 : FI tb0 12 21 (0, 321, 0) 9 RX8 TX8 43 tyX8 := ⟨CF_X8, ⟨_, rfl, rfl, by decide⟩, by decide, by decide, Or.inl rfl⟩
theorem f0_X8_22 : FI tb0 12 22 (2, 222, 13) 9 RX8 TX8 43 tyX8 := ⟨CF_X8, ⟨_, rfl, rfl, by decide⟩, by decide, by decide, Or.inl rfl⟩
theorem f0_X8_23 : FI tb0 12 23 (2, 223, 13) 9 RX8 TX8 43 tyX8 := ⟨CF_X8, ⟨_, rfl, rfl, by decide⟩, by decide, by decide, Or.inl rfl⟩
theorem f0_X8_24 : FI tb0 12 24 (2, 224, 13) 9 RX8 TX8 43 tyX8 := ⟨CF_X8, ⟨_, rfl, rfl, by decide⟩, by decide, by decide, Or.inl rfl⟩
theorem f0_X8_25 : FI tb0 12 25 (2, 225, 13) 9 RX8 TX8 43 tyX8 := ⟨CF_X8, ⟨_, rfl, rfl, by decide⟩, by decide, by decide, Or.inl rfl⟩
theorem f0_X8_26 : FI tb0 12 26 (2, 226, 13) 9 RX8 TX8 43 tyX8 := ⟨CF_X8, ⟨_, rfl, rfl, by decide⟩, by decide, by decide, Or.inl rfl⟩
theorem f0_X8_27 : FI tb0 12 27 (2, 227, 13) 9 RX8 TX8 43 tyX8 := ⟨CF_X8, ⟨_, rfl, rfl, by decide⟩, by decide, by decide, Or.inl rfl⟩
theorem f0_X8_28 : FI tb0 12 28 (2, 228, 13) 9 RX8 TX8 43 tyX8 := ⟨CF_X8, ⟨_, rfl, rfl, by decide⟩, by decide, by decide, Or.inl rfl⟩
theorem f0_X8_29 : FI tb0 12 29 (2, 229, 13) 9 RX8 TX8 43 tyX8 := ⟨CF_X8, ⟨_, rfl, rfl, by decide⟩, by decide, by decide, Or.inl rfl⟩
theorem f0_X8_30 : FI tb0 12 30 (2, 230, 13) 9 RX8 TX8 43 tyX8 := ⟨CF_X8, ⟨_, rfl, rfl, by decide⟩, by decide, by decide, Or.inl rfl⟩
theorem f0_X8_31 : FI tb0 12 31 (0, 331, 0) 9 RX8 TX8 43 tyX8 := ⟨CF_X8, ⟨_, rfl, rfl, by decide⟩, by decide, by decide, Or.inl rfl⟩
theorem f0_X8_32 : FI tb0 12 32 (2, 232, 13) 9 RX8 TX8 43 tyX8 := ⟨CF_X8, ⟨_, rfl, rfl, by decide⟩, by decide, by decide, Or.inl rfl⟩
theorem f0_X8_33 : FI tb0 12 33 (2, 233, 13) 9 RX8 TX8 43 tyX8 := ⟨CF_X8, ⟨_, rfl, rfl, by decide⟩, by decide, by decide, Or.inl rfl⟩
theorem f0_X8_34 : FI tb0 12 34 (2, 234, 13) 9 RX8 TX8 43 tyX8 := ⟨CF_X8, ⟨_, rfl, rfl, by decide⟩, by decide, by decide, Or.inl rfl⟩
theorem f0_X8_35 : FI tb0 12 35 (2, 235, 13) 9 RX8 TX8 43 tyX8 := ⟨CF_X8, ⟨_, rfl, rfl, by decide⟩, by decide, by decide, Or.inl rfl⟩
theorem f0_X8_36 : FI tb0 12 36 (0, 336, 0) 9 RX8 TX8 43 tyX8 := ⟨CF_X8, ⟨_, rfl, rfl, by decide⟩, by decide, by decide, Or.inl rfl⟩
theorem f0_X8_37 : FI tb0 12 37 (2, 237, 13) 9 RX8 TX8 43 tyX8 := ⟨CF_X8, ⟨_, rfl, rfl, by decide⟩, by decide, by decide, Or.inl rfl⟩
theorem f0_X8_38 : FI tb0 12 38 (2, 238, 13) 9 RX8 TX8 43 tyX8 := ⟨CF_X8, ⟨_, rfl, rfl, by decide⟩, by decide, by decide, Or.inl rfl⟩
theorem f0_X8_39 : FI tb0 12 39 (2, 239, 13) 9 RX8 TX8 43 tyX8 := ⟨CF_X8, ⟨_, rfl, rfl, by decide⟩, by decide, by decide, Or.inl rfl⟩
theorem f0_X8_40 : FI tb0 12 40 (2, 240, 13) 9 RX8 TX8 43 tyX8 := ⟨CF_X8, ⟨_, rfl, rfl, by decide⟩, by decide, by decide, Or.inl rfl⟩
theorem f0_X8_41 : FI tb0 12 41 (2, 241, 13) 9 RX8 TX8 43 tyX8 := ⟨CF_X8, ⟨_, rfl, rfl, by decide⟩, by decide, by decide, Or.inl rfl⟩
theorem f0_X8_42 : FI tb0 12 42 (0, 342, 0) 9 RX8 TX8 43 tyX8 := ⟨CF_X8, ⟨_, rfl, rfl, by decide⟩, by decide, by decide, Or.inl rfl⟩
theorem g977 : Cond.methodLink RX8 1 Lib.objectInit ∈ gW := gm 977 (by decide +kernel) (by decide +kernel)
theorem g1108 : Cond.arrayClass .boolean ∈ gW := gm 1108 (by decide +kernel) (by decide +kernel)
section IB
variable {X : Cx} {p : Program} {l : Launch} {e : Env} {R : Room} {s : State} {m : MethodId} {args : Array Value} {below : List Frame} {meth : Method} {c : Code} {S0 : Sg} {ad0 : Nat → Nat} {Qa : Nat → Int32 → Sg → Prop}
theorem V_getM0 {nL fr lo : Nat} {cc : ByteArray} {own : String} {pc index c9 k9 sl : Nat} {lv : List (Nat × Value)} {st : List Value} {Q : State → Prop} {S : Sg} (C : Cn X k0 p l R s m meth c cc own nL fr lo) (hT : xT X = tb0) (F : FI tb0 12 k9 (2, c9, 13) 9 RX8 TX8 43 tyX8) (hsl : sl < 43) (hlink : Cond.fieldLink own index RX8 (TX8 k9).2.1 (TX8 k9).2.2.1 ∈ gW) (hdg : decode cc pc = .ok (.getfield index, 3)) {A : Prop} (h : S.1 c9 0 = nI sl ∧ A) (k : A → V X p l e R s m args below meth c nL Q S0 ad0 (S) (pc + 3) (lv) (.ref (enc 13 sl) :: st)) : V X p l e R s m args below meth c nL Q S0 ad0 (S) (pc) (lv) (.ref (enc 12 0) :: st) := by
  have e : dv S 0 (2, c9, 13) = .ref (enc 13 sl) := by
    show rf (S.1 c9 0) 13 = _
    rw [h.1, rf_pos (nI_pos (by omega)), nt_nI (by omega)]
  refine V_okE C (enc_ne63 F.2.2.1) fun hd ho => ?_
  refine V_getD C hT F hlink hdg ?_ (by rw [e]; exact k h.2)
  obtain ⟨F1, ⟨fds, h1, h2, h3⟩, h4, h5, h6⟩ := F
  rw [ct_obj hT h1 (by omega)] at ho
  have h9 : okw S (dv S 0 (2, c9, 13)) := ho _ (List.mem_map.mpr ⟨_, List.mem_of_getElem? h2, rfl⟩)
  rw [e] at h9 ⊢
  exact h9.elim (fun e => Or.inl (by rw [e]; decide)) Or.inr
theorem V_putM {nL fr lo : Nat} {cc : ByteArray} {own : String} {pc index c9 k9 sl : Nat} {lv : List (Nat × Value)} {st : List Value} {Q : State → Prop} {S : Sg} (C : Cn X k0 p l R s m meth c cc own nL fr lo) (hT : xT X = tb0) (F : FI tb0 12 k9 (2, c9, 13) 9 RX8 TX8 43 tyX8) (hsl : sl < 43) (hoc : oc c9 = true ∧ c9 ≠ 15 ∧ lc c9) (hlink : Cond.fieldLink own index RX8 (TX8 k9).2.1 (TX8 k9).2.2.1 ∈ gW) (hfin : (TX8 k9).2.2.2 = false ∨ ((TX8 k9).2.2.2 = true ∧ meth.name = "<init>" ∧ (TX8 k9).1 = own))
    (hty : (∃ n, tyX8 k9 = .object n) ∨ ∃ t, tyX8 k9 = .array t) (hdg : decode cc pc = .ok (.putfield index, 3)) (k : V X p l e R s m args below meth c nL Q S0 ad0 (su S c9 0 (nI sl)) (pc + 3) (lv) (st)) : V X p l e R s m args below meth c nL Q S0 ad0 (S) (pc) (lv) (.ref (enc 13 sl) :: .ref (enc 12 0) :: st) := by
  intro h1
  have hdm := okv_dm h1.1 (enc_ne63 (by decide))
  refine V_putD C hT tb0_ok F (Or.inr rfl) ⟨hoc.1, hoc.2.2.1, hoc.2.1⟩ hlink hfin (LI_su hoc.2.2) (v := .ref (enc 13 sl)) ?_ (Or.inr hdm) (fun ad => ?_) (fun ad => ?_) hdg k h1
  · show rf ((su S c9 0 (nI sl)).1 c9 0) 13 = _
    rw [su_at, rf_pos (nI_pos (by omega)), nt_nI (by omega)]
  · rcases hty with ⟨n, h⟩ | ⟨t, h⟩ <;> rw [h] <;> rfl
  · rcases hty with ⟨n, h⟩ | ⟨t, h⟩ <;> rw [h] <;> rfl
theorem pl_X8_init : (parseMethodDescriptor yX8_init.desc).map (fun d => d.parameters.length) = some 0 := by decide +kernel
def w_X8_init_289  (Q : Nat → Int32 → Sg → Prop) : Nat → Int32 → Sg → Prop
  | 0, _, _ => False
  | n + 1, x1, S => ((1440 ≤ x1 → Q 0 0 S) ∧ (¬ 1440 ≤ x1 → (S.1 226 0 = nI 26 ∧ (vp_in x1 1440 ∧ (∀ S1, S1 = su S 126 (nt x1) (-1) → (S1.1 227 0 = nI 27 ∧ (vp_in x1 1440 ∧ (∀ S2, S2 = su S1 127 (nt x1) (-1) → w_X8_init_289  Q n (x1 + 1) S2))))))))
theorem k_X8_init_289 (hT : xT X = tb0) (hl : l.stackTraces = false) (C : Cn X k0 p l R s m meth c cX8_init RX8 2 1 12) (hr : meth.sig.returnType = none) (hnm : meth.name = yX8_init.name) (htab : ∀ x ∈ c.exceptionTable.toList, False)  : ∀ n {x1 : Int32} {S : Sg}, w_X8_init_289  Qa n x1 S → V X p l e R s m args below meth c 2 (QM X below args s S0 ad0 rvV Qa) S0 ad0 S 289 [(0, Value.ref (enc 12 0)), (1, Value.int x1)] [] := by
  intro n
  induction n with
  | zero => intro x1 S h; exact h.elim
  | succ n ih =>
    intro x1 S h
    refine V_iload_n (pc := 289) C dX8_init_289 rfl 1 rfl ?_
    refine V_sipush (pc := 290) C (v := 1440) dX8_init_290 rfl ?_
    refine V_icmp_ge (pc := 293) (tgt := 316) C dX8_init_293 (by decide) h (fun h => ?_) (fun h => ?_)
    · exact V_vret (pc := 316) C hr rfl h dX8_init_316
    · refine V_aload_n (pc := 296) C dX8_init_296 rfl 0 rfl ?_
      refine V_getM0 (pc := 297) C hT f0_X8_26 (by decide) g1004 dX8_init_297 h (fun h => ?_)
      refine V_iload_n (pc := 300) C dX8_init_300 rfl 1 rfl ?_
      refine V_iconst (pc := 301) C (v := (-1)) dX8_init_301 rfl ?_
      refine V_mst (pc := 302) C hT tb0_arr (n := 1440) (c9 := 126) (by decide) rfl rfl rfl h dX8_init_302 (fun h => V_nx fun S1 e9 => ?_)
      replace h := h S1 e9; clear e9
      refine V_aload_n (pc := 303) C dX8_init_303 rfl 0 rfl ?_
      refine V_getM0 (pc := 304) C hT f0_X8_27 (by decide) g1005 dX8_init_304 h (fun h => ?_)
      refine V_iload_n (pc := 307) C dX8_init_307 rfl 1 rfl ?_
      refine V_iconst (pc := 308) C (v := (-1)) dX8_init_308 rfl ?_
      refine V_mst (pc := 309) C hT tb0_arr (n := 1440) (c9 := 127) (by decide) rfl rfl rfl h dX8_init_309 (fun h => V_nx fun S2 e9 => ?_)
      replace h := h S2 e9; clear e9
      refine V_iinc (pc := 310) C (a := 1) (v := x1 + 1) dX8_init_310 rfl rfl (by decide) rfl ?_
      refine V_goto (pc := 313) (tgt := 289) C dX8_init_313 (by decide) ?_
      refine V_sub [1, 0] rfl ?_
      exact ih h
def w_X8_init  (S : Sg) (Q : Nat → Int32 → Sg → Prop) : Prop := (∀ S3, S3 = su S 301 0 10 → ((S3.1 15 3 ≠ 1 ∧ S3.2.1 + 1 ≤ nB1 ∧ S3.2.2 + mLen 3 ≤ nB2) ∧ (∀ S4, S4 = nmd S3 3 → (∀ S5, S5 = su S4 203 0 (nI 3) → ((S5.1 15 4 ≠ 1 ∧ S5.2.1 + 1 ≤ nB1 ∧ S5.2.2 + mLen 4 ≤ nB2) ∧ (∀ S6, S6 = nmd S5 4 → (∀ S7, S7 = su S6 204 0 (nI 4) → ((S7.1 15 5 ≠ 1 ∧ S7.2.1 + 1 ≤ nB1 ∧ S7.2.2 + mLen 5 ≤ nB2) ∧ (∀ S8, S8 = nmd S7 5 → (∀ S9, S9 = su S8 205 0 (nI 5) → ((S9.1 15 6 ≠ 1 ∧ S9.2.1 + 1 ≤ nB1 ∧ S9.2.2 + mLen 6 ≤ nB2) ∧ (∀ S10, S10 = nmd S9 6 → (∀ S11, S11 = su S10 206 0 (nI 6) → ((S11.1 15 8 ≠ 1 ∧ S11.2.1 + 1 ≤ nB1 ∧ S11.2.2 + mLen 8 ≤ nB2) ∧ (∀ S12, S12 = nmd S11 8 → (∀ S13, S13 = su S12 208 0 (nI 8) → ((S13.1 15 9 ≠ 1 ∧ S13.2.1 + 1 ≤ nB1 ∧ S13.2.2 + mLen 9 ≤ nB2) ∧ (∀ S14, S14 = nmd S13 9 → (∀ S15, S15 = su S14 209 0 (nI 9) → ((S15.1 15 10 ≠ 1 ∧ S15.2.1 + 1 ≤ nB1 ∧ S15.2.2 + mLen 10 ≤ nB2) ∧ (∀ S16, S16 = nmd S15 10 → (∀ S17, S17 = su S16 210 0 (nI 10) → ((S17.1 15 11 ≠ 1 ∧ S17.2.1 + 1 ≤ nB1 ∧ S17.2.2 + mLen 11 ≤ nB2) ∧ (∀ S18, S18 = nmd S17 11 → (∀ S19, S19 = su S18 211 0 (nI 11) → ((S19.1 15 12 ≠ 1 ∧ S19.2.1 + 1 ≤ nB1 ∧ S19.2.2 + mLen 12 ≤ nB2) ∧ (∀ S20, S20 = nmd S19 12 → (∀ S21, S21 = su S20 212 0 (nI 12) → ((S21.1 15 13 ≠ 1 ∧ S21.2.1 + 1 ≤ nB1 ∧ S21.2.2 + mLen 13 ≤ nB2) ∧ (∀ S22, S22 = nmd S21 13 → (∀ S23, S23 = su S22 213 0 (nI 13) → ((S23.1 15 14 ≠ 1 ∧ S23.2.1 + 1 ≤ nB1 ∧ S23.2.2 + mLen 14 ≤ nB2) ∧ (∀ S24, S24 = nmd S23 14 → (∀ S25, S25 = su S24 214 0 (nI 14) → ((S25.1 15 15 ≠ 1 ∧ S25.2.1 + 1 ≤ nB1 ∧ S25.2.2 + mLen 15 ≤ nB2) ∧ (∀ S26, S26 = nmd S25 15 → (∀ S27, S27 = su S26 215 0 (nI 15) → ((S27.1 15 17 ≠ 1 ∧ S27.2.1 + 1 ≤ nB1 ∧ S27.2.2 + mLen 17 ≤ nB2) ∧ (∀ S28, S28 = nmd S27 17 → (∀ S29, S29 = su S28 217 0 (nI 17) → ((S29.1 15 18 ≠ 1 ∧ S29.2.1 + 1 ≤ nB1 ∧ S29.2.2 + mLen 18 ≤ nB2) ∧ (∀ S30, S30 = nmd S29 18 → (∀ S31, S31 = su S30 218 0 (nI 18) → ((S31.1 15 19 ≠ 1 ∧ S31.2.1 + 1 ≤ nB1 ∧ S31.2.2 + mLen 19 ≤ nB2) ∧ (∀ S32, S32 = nmd S31 19 → (∀ S33, S33 = su S32 219 0 (nI 19) → ((S33.1 15 20 ≠ 1 ∧ S33.2.1 + 1 ≤ nB1 ∧ S33.2.2 + mLen 20 ≤ nB2) ∧ (∀ S34, S34 = nmd S33 20 → (∀ S35, S35 = su S34 220 0 (nI 20) → ((S35.1 15 22 ≠ 1 ∧ S35.2.1 + 1 ≤ nB1 ∧ S35.2.2 + mLen 22 ≤ nB2) ∧ (∀ S36, S36 = nmd S35 22 → (∀ S37, S37 = su S36 222 0 (nI 22) → ((S37.1 15 23 ≠ 1 ∧ S37.2.1 + 1 ≤ nB1 ∧ S37.2.2 + mLen 23 ≤ nB2) ∧ (∀ S38, S38 = nmd S37 23 → (∀ S39, S39 = su S38 223 0 (nI 23) → ((S39.1 15 24 ≠ 1 ∧ S39.2.1 + 1 ≤ nB1 ∧ S39.2.2 + mLen 24 ≤ nB2) ∧ (∀ S40, S40 = nmd S39 24 → (∀ S41, S41 = su S40 224 0 (nI 24) → ((S41.1 15 25 ≠ 1 ∧ S41.2.1 + 1 ≤ nB1 ∧ S41.2.2 + mLen 25 ≤ nB2) ∧ (∀ S42, S42 = nmd S41 25 → (∀ S43, S43 = su S42 225 0 (nI 25) → ((S43.1 15 26 ≠ 1 ∧ S43.2.1 + 1 ≤ nB1 ∧ S43.2.2 + mLen 26 ≤ nB2) ∧ (∀ S44, S44 = nmd S43 26 → (∀ S45, S45 = su S44 226 0 (nI 26) → ((S45.1 15 27 ≠ 1 ∧ S45.2.1 + 1 ≤ nB1 ∧ S45.2.2 + mLen 27 ≤ nB2) ∧ (∀ S46, S46 = nmd S45 27 → (∀ S47, S47 = su S46 227 0 (nI 27) → ((S47.1 15 28 ≠ 1 ∧ S47.2.1 + 1 ≤ nB1 ∧ S47.2.2 + mLen 28 ≤ nB2) ∧ (∀ S48, S48 = nmd S47 28 → (∀ S49, S49 = su S48 228 0 (nI 28) → ((S49.1 15 29 ≠ 1 ∧ S49.2.1 + 1 ≤ nB1 ∧ S49.2.2 + mLen 29 ≤ nB2) ∧ (∀ S50, S50 = nmd S49 29 → (∀ S51, S51 = su S50 229 0 (nI 29) → ((S51.1 15 30 ≠ 1 ∧ S51.2.1 + 1 ≤ nB1 ∧ S51.2.2 + mLen 30 ≤ nB2) ∧ (∀ S52, S52 = nmd S51 30 → (∀ S53, S53 = su S52 230 0 (nI 30) → ((S53.1 15 32 ≠ 1 ∧ S53.2.1 + 1 ≤ nB1 ∧ S53.2.2 + mLen 32 ≤ nB2) ∧ (∀ S54, S54 = nmd S53 32 → (∀ S55, S55 = su S54 232 0 (nI 32) → ((S55.1 15 33 ≠ 1 ∧ S55.2.1 + 1 ≤ nB1 ∧ S55.2.2 + mLen 33 ≤ nB2) ∧ (∀ S56, S56 = nmd S55 33 → (∀ S57, S57 = su S56 233 0 (nI 33) → ((S57.1 15 34 ≠ 1 ∧ S57.2.1 + 1 ≤ nB1 ∧ S57.2.2 + mLen 34 ≤ nB2) ∧ (∀ S58, S58 = nmd S57 34 → (∀ S59, S59 = su S58 234 0 (nI 34) → ((S59.1 15 35 ≠ 1 ∧ S59.2.1 + 1 ≤ nB1 ∧ S59.2.2 + mLen 35 ≤ nB2) ∧ (∀ S60, S60 = nmd S59 35 → (∀ S61, S61 = su S60 235 0 (nI 35) → ((S61.1 15 37 ≠ 1 ∧ S61.2.1 + 1 ≤ nB1 ∧ S61.2.2 + mLen 37 ≤ nB2) ∧ (∀ S62, S62 = nmd S61 37 → (∀ S63, S63 = su S62 237 0 (nI 37) → ((S63.1 15 38 ≠ 1 ∧ S63.2.1 + 1 ≤ nB1 ∧ S63.2.2 + mLen 38 ≤ nB2) ∧ (∀ S64, S64 = nmd S63 38 → (∀ S65, S65 = su S64 238 0 (nI 38) → ((S65.1 15 39 ≠ 1 ∧ S65.2.1 + 1 ≤ nB1 ∧ S65.2.2 + mLen 39 ≤ nB2) ∧ (∀ S66, S66 = nmd S65 39 → (∀ S67, S67 = su S66 239 0 (nI 39) → ((S67.1 15 40 ≠ 1 ∧ S67.2.1 + 1 ≤ nB1 ∧ S67.2.2 + mLen 40 ≤ nB2) ∧ (∀ S68, S68 = nmd S67 40 → (∀ S69, S69 = su S68 240 0 (nI 40) → ((S69.1 15 41 ≠ 1 ∧ S69.2.1 + 1 ≤ nB1 ∧ S69.2.2 + mLen 41 ≤ nB2) ∧ (∀ S70, S70 = nmd S69 41 → (∀ S71, S71 = su S70 241 0 (nI 41) → ∃ n9, w_X8_init_289  Q n9 0 S71)))))))))))))))))))))))))))))))))))))))))))))))))))))))))))))))))))))))))))))))))))))))))))))))))))))))
theorem ct_X8_init (hT : xT X = tb0) (hl : l.stackTraces = false)  {S : Sg} (h : w_X8_init  S Qa) : CT X k0 l yX8_init cX8_init 2 none 1 12 [Value.ref (enc 12 0)] rvV S Qa :=
  CT_ofV (own := RX8) (by decide +kernel) (le8 rfl) rfl hl fun p e R s m args below meth c ad0 C hr hnm htab => by
    refine V_aload_n (pc := 0) C dX8_init_0 rfl 0 rfl ?_
    refine V_objI (pc := 1) C g977 g90 g91 ⟨by decide, le8 rfl⟩ dX8_init_1 ?_
    refine V_aload_n (pc := 4) C dX8_init_4 rfl 0 rfl ?_
    refine V_bipush (pc := 5) C (v := 10) dX8_init_5 rfl ?_
    refine V_putI (pc := 7) C hT tb0_ok f0_X8_1 (by unfold lc; decide) g979 (Or.inl rfl) (Or.inl rfl) dX8_init_7 (V_nx fun S3 e9 => ?_)
    replace h := h S3 e9; clear e9
    refine V_aload_n (pc := 10) C dX8_init_10 rfl 0 rfl ?_
    refine V_iconst (pc := 11) C (v := 4) dX8_init_11 rfl ?_
    refine V_newmI (pc := 12) C hT tb0_g (j := 3) (by decide) rfl (by decide) g541 dX8_init_12 h (fun h => V_nx fun S4 e9 => ?_)
    replace h := h S4 e9; clear e9
    refine V_putM (pc := 14) C hT f0_X8_3 (by decide) (by unfold lc; decide) g981 (Or.inr ⟨rfl, hnm, rfl⟩) (Or.inr ⟨_, rfl⟩) dX8_init_14 (V_nx fun S5 e9 => ?_)
    replace h := h S5 e9; clear e9
    refine V_aload_n (pc := 17) C dX8_init_17 rfl 0 rfl ?_
    refine V_iconst (pc := 18) C (v := 4) dX8_init_18 rfl ?_
    refine V_newmI (pc := 19) C hT tb0_g (j := 4) (by decide) rfl (by decide) g541 dX8_init_19 h (fun h => V_nx fun S6 e9 => ?_)
    replace h := h S6 e9; clear e9
    refine V_putM (pc := 21) C hT f0_X8_4 (by decide) (by unfold lc; decide) g982 (Or.inr ⟨rfl, hnm, rfl⟩) (Or.inr ⟨_, rfl⟩) dX8_init_21 (V_nx fun S7 e9 => ?_)
    replace h := h S7 e9; clear e9
    refine V_aload_n (pc := 24) C dX8_init_24 rfl 0 rfl ?_
    refine V_iconst (pc := 25) C (v := 4) dX8_init_25 rfl ?_
    refine V_newmI (pc := 26) C hT tb0_g (j := 5) (by decide) rfl (by decide) g541 dX8_init_26 h (fun h => V_nx fun S8 e9 => ?_)
    replace h := h S8 e9; clear e9
    refine V_putM (pc := 28) C hT f0_X8_5 (by decide) (by unfold lc; decide) g983 (Or.inr ⟨rfl, hnm, rfl⟩) (Or.inr ⟨_, rfl⟩) dX8_init_28 (V_nx fun S9 e9 => ?_)
    replace h := h S9 e9; clear e9
    refine V_aload_n (pc := 31) C dX8_init_31 rfl 0 rfl ?_
    refine V_iconst (pc := 32) C (v := 4) dX8_init_32 rfl ?_
    refine V_newmI (pc := 33) C hT tb0_g (j := 6) (by decide) rfl (by decide) g541 dX8_init_33 h (fun h => V_nx fun S10 e9 => ?_)
    replace h := h S10 e9; clear e9
    refine V_putM (pc := 35) C hT f0_X8_6 (by decide) (by unfold lc; decide) g984 (Or.inr ⟨rfl, hnm, rfl⟩) (Or.inr ⟨_, rfl⟩) dX8_init_35 (V_nx fun S11 e9 => ?_)
    replace h := h S11 e9; clear e9
    refine V_aload_n (pc := 38) C dX8_init_38 rfl 0 rfl ?_
    refine V_bipush (pc := 39) C (v := 8) dX8_init_39 rfl ?_
    refine V_newmI (pc := 41) C hT tb0_g (j := 8) (by decide) rfl (by decide) g541 dX8_init_41 h (fun h => V_nx fun S12 e9 => ?_)
    replace h := h S12 e9; clear e9
    refine V_putM (pc := 43) C hT f0_X8_8 (by decide) (by unfold lc; decide) g986 (Or.inr ⟨rfl, hnm, rfl⟩) (Or.inr ⟨_, rfl⟩) dX8_init_43 (V_nx fun S13 e9 => ?_)
    replace h := h S13 e9; clear e9
    refine V_aload_n (pc := 46) C dX8_init_46 rfl 0 rfl ?_
    refine V_bipush (pc := 47) C (v := 8) dX8_init_47 rfl ?_
    refine V_newmI (pc := 49) C hT tb0_g (j := 9) (by decide) rfl (by decide) g541 dX8_init_49 h (fun h => V_nx fun S14 e9 => ?_)
    replace h := h S14 e9; clear e9
    refine V_putM (pc := 51) C hT f0_X8_9 (by decide) (by unfold lc; decide) g987 (Or.inr ⟨rfl, hnm, rfl⟩) (Or.inr ⟨_, rfl⟩) dX8_init_51 (V_nx fun S15 e9 => ?_)
    replace h := h S15 e9; clear e9
    refine V_aload_n (pc := 54) C dX8_init_54 rfl 0 rfl ?_
    refine V_bipush (pc := 55) C (v := 8) dX8_init_55 rfl ?_
    refine V_newmI (pc := 57) C hT tb0_g (j := 10) (by decide) rfl (by decide) g541 dX8_init_57 h (fun h => V_nx fun S16 e9 => ?_)
    replace h := h S16 e9; clear e9
    refine V_putM (pc := 59) C hT f0_X8_10 (by decide) (by unfold lc; decide) g988 (Or.inr ⟨rfl, hnm, rfl⟩) (Or.inr ⟨_, rfl⟩) dX8_init_59 (V_nx fun S17 e9 => ?_)
    replace h := h S17 e9; clear e9
    refine V_aload_n (pc := 62) C dX8_init_62 rfl 0 rfl ?_
    refine V_bipush (pc := 63) C (v := 8) dX8_init_63 rfl ?_
    refine V_newmI (pc := 65) C hT tb0_g (j := 11) (by decide) rfl (by decide) g541 dX8_init_65 h (fun h => V_nx fun S18 e9 => ?_)
    replace h := h S18 e9; clear e9
    refine V_putM (pc := 67) C hT f0_X8_11 (by decide) (by unfold lc; decide) g989 (Or.inr ⟨rfl, hnm, rfl⟩) (Or.inr ⟨_, rfl⟩) dX8_init_67 (V_nx fun S19 e9 => ?_)
    replace h := h S19 e9; clear e9
    refine V_aload_n (pc := 70) C dX8_init_70 rfl 0 rfl ?_
    refine V_bipush (pc := 71) C (v := 8) dX8_init_71 rfl ?_
    refine V_newmI (pc := 73) C hT tb0_g (j := 12) (by decide) rfl (by decide) g541 dX8_init_73 h (fun h => V_nx fun S20 e9 => ?_)
    replace h := h S20 e9; clear e9
    refine V_putM (pc := 75) C hT f0_X8_12 (by decide) (by unfold lc; decide) g990 (Or.inr ⟨rfl, hnm, rfl⟩) (Or.inr ⟨_, rfl⟩) dX8_init_75 (V_nx fun S21 e9 => ?_)
    replace h := h S21 e9; clear e9
    refine V_aload_n (pc := 78) C dX8_init_78 rfl 0 rfl ?_
    refine V_bipush (pc := 79) C (v := 8) dX8_init_79 rfl ?_
    refine V_newmI (pc := 81) C hT tb0_g (j := 13) (by decide) rfl (by decide) g541 dX8_init_81 h (fun h => V_nx fun S22 e9 => ?_)
    replace h := h S22 e9; clear e9
    refine V_putM (pc := 83) C hT f0_X8_13 (by decide) (by unfold lc; decide) g991 (Or.inr ⟨rfl, hnm, rfl⟩) (Or.inr ⟨_, rfl⟩) dX8_init_83 (V_nx fun S23 e9 => ?_)
    replace h := h S23 e9; clear e9
    refine V_aload_n (pc := 86) C dX8_init_86 rfl 0 rfl ?_
    refine V_bipush (pc := 87) C (v := 8) dX8_init_87 rfl ?_
    refine V_newmI (pc := 89) C hT tb0_g (j := 14) (by decide) rfl (by decide) g541 dX8_init_89 h (fun h => V_nx fun S24 e9 => ?_)
    replace h := h S24 e9; clear e9
    refine V_putM (pc := 91) C hT f0_X8_14 (by decide) (by unfold lc; decide) g992 (Or.inr ⟨rfl, hnm, rfl⟩) (Or.inr ⟨_, rfl⟩) dX8_init_91 (V_nx fun S25 e9 => ?_)
    replace h := h S25 e9; clear e9
    refine V_aload_n (pc := 94) C dX8_init_94 rfl 0 rfl ?_
    refine V_bipush (pc := 95) C (v := 8) dX8_init_95 rfl ?_
    refine V_newmI (pc := 97) C hT tb0_g (j := 15) (by decide) rfl (by decide) g541 dX8_init_97 h (fun h => V_nx fun S26 e9 => ?_)
    replace h := h S26 e9; clear e9
    refine V_putM (pc := 99) C hT f0_X8_15 (by decide) (by unfold lc; decide) g993 (Or.inr ⟨rfl, hnm, rfl⟩) (Or.inr ⟨_, rfl⟩) dX8_init_99 (V_nx fun S27 e9 => ?_)
    replace h := h S27 e9; clear e9
    refine V_aload_n (pc := 102) C dX8_init_102 rfl 0 rfl ?_
    refine V_bipush (pc := 103) C (v := 30) dX8_init_103 rfl ?_
    refine V_newmI (pc := 105) C hT tb0_g (j := 17) (by decide) rfl (by decide) g541 dX8_init_105 h (fun h => V_nx fun S28 e9 => ?_)
    replace h := h S28 e9; clear e9
    refine V_putM (pc := 107) C hT f0_X8_17 (by decide) (by unfold lc; decide) g995 (Or.inr ⟨rfl, hnm, rfl⟩) (Or.inr ⟨_, rfl⟩) dX8_init_107 (V_nx fun S29 e9 => ?_)
    replace h := h S29 e9; clear e9
    refine V_aload_n (pc := 110) C dX8_init_110 rfl 0 rfl ?_
    refine V_bipush (pc := 111) C (v := 30) dX8_init_111 rfl ?_
    refine V_newmI (pc := 113) C hT tb0_g (j := 18) (by decide) rfl (by decide) g541 dX8_init_113 h (fun h => V_nx fun S30 e9 => ?_)
    replace h := h S30 e9; clear e9
    refine V_putM (pc := 115) C hT f0_X8_18 (by decide) (by unfold lc; decide) g996 (Or.inr ⟨rfl, hnm, rfl⟩) (Or.inr ⟨_, rfl⟩) dX8_init_115 (V_nx fun S31 e9 => ?_)
    replace h := h S31 e9; clear e9
    refine V_aload_n (pc := 118) C dX8_init_118 rfl 0 rfl ?_
    refine V_bipush (pc := 119) C (v := 30) dX8_init_119 rfl ?_
    refine V_newmI (pc := 121) C hT tb0_g (j := 19) (by decide) rfl (by decide) g541 dX8_init_121 h (fun h => V_nx fun S32 e9 => ?_)
    replace h := h S32 e9; clear e9
    refine V_putM (pc := 123) C hT f0_X8_19 (by decide) (by unfold lc; decide) g997 (Or.inr ⟨rfl, hnm, rfl⟩) (Or.inr ⟨_, rfl⟩) dX8_init_123 (V_nx fun S33 e9 => ?_)
    replace h := h S33 e9; clear e9
    refine V_aload_n (pc := 126) C dX8_init_126 rfl 0 rfl ?_
    refine V_bipush (pc := 127) C (v := 30) dX8_init_127 rfl ?_
    refine V_newmI (pc := 129) C hT tb0_g (j := 20) (by decide) rfl (by decide) g541 dX8_init_129 h (fun h => V_nx fun S34 e9 => ?_)
    replace h := h S34 e9; clear e9
    refine V_putM (pc := 131) C hT f0_X8_20 (by decide) (by unfold lc; decide) g998 (Or.inr ⟨rfl, hnm, rfl⟩) (Or.inr ⟨_, rfl⟩) dX8_init_131 (V_nx fun S35 e9 => ?_)
    replace h := h S35 e9; clear e9
    refine V_aload_n (pc := 134) C dX8_init_134 rfl 0 rfl ?_
    refine V_bipush (pc := 135) C (v := 30) dX8_init_135 rfl ?_
    refine V_newmI (pc := 137) C hT tb0_g (j := 22) (by decide) rfl (by decide) g541 dX8_init_137 h (fun h => V_nx fun S36 e9 => ?_)
    replace h := h S36 e9; clear e9
    refine V_putM (pc := 139) C hT f0_X8_22 (by decide) (by unfold lc; decide) g1000 (Or.inr ⟨rfl, hnm, rfl⟩) (Or.inr ⟨_, rfl⟩) dX8_init_139 (V_nx fun S37 e9 => ?_)
    replace h := h S37 e9; clear e9
    refine V_aload_n (pc := 142) C dX8_init_142 rfl 0 rfl ?_
    refine V_bipush (pc := 143) C (v := 30) dX8_init_143 rfl ?_
    refine V_newmI (pc := 145) C hT tb0_g (j := 23) (by decide) rfl (by decide) g541 dX8_init_145 h (fun h => V_nx fun S38 e9 => ?_)
    replace h := h S38 e9; clear e9
    refine V_putM (pc := 147) C hT f0_X8_23 (by decide) (by unfold lc; decide) g1001 (Or.inr ⟨rfl, hnm, rfl⟩) (Or.inr ⟨_, rfl⟩) dX8_init_147 (V_nx fun S39 e9 => ?_)
    replace h := h S39 e9; clear e9
    refine V_aload_n (pc := 150) C dX8_init_150 rfl 0 rfl ?_
    refine V_bipush (pc := 151) C (v := 30) dX8_init_151 rfl ?_
    refine V_newmI (pc := 153) C hT tb0_g (j := 24) (by decide) rfl (by decide) g541 dX8_init_153 h (fun h => V_nx fun S40 e9 => ?_)
    replace h := h S40 e9; clear e9
    refine V_putM (pc := 155) C hT f0_X8_24 (by decide) (by unfold lc; decide) g1002 (Or.inr ⟨rfl, hnm, rfl⟩) (Or.inr ⟨_, rfl⟩) dX8_init_155 (V_nx fun S41 e9 => ?_)
    replace h := h S41 e9; clear e9
    refine V_aload_n (pc := 158) C dX8_init_158 rfl 0 rfl ?_
    refine V_bipush (pc := 159) C (v := 30) dX8_init_159 rfl ?_
    refine V_newmI (pc := 161) C hT tb0_g (j := 25) (by decide) rfl (by decide) g541 dX8_init_161 h (fun h => V_nx fun S42 e9 => ?_)
    replace h := h S42 e9; clear e9
    refine V_putM (pc := 163) C hT f0_X8_25 (by decide) (by unfold lc; decide) g1003 (Or.inr ⟨rfl, hnm, rfl⟩) (Or.inr ⟨_, rfl⟩) dX8_init_163 (V_nx fun S43 e9 => ?_)
    replace h := h S43 e9; clear e9
    refine V_aload_n (pc := 166) C dX8_init_166 rfl 0 rfl ?_
    refine V_sipush (pc := 167) C (v := 1440) dX8_init_167 rfl ?_
    refine V_newmI (pc := 170) C hT tb0_g (j := 26) (by decide) rfl (by decide) g541 dX8_init_170 h (fun h => V_nx fun S44 e9 => ?_)
    replace h := h S44 e9; clear e9
    refine V_putM (pc := 172) C hT f0_X8_26 (by decide) (by unfold lc; decide) g1004 (Or.inr ⟨rfl, hnm, rfl⟩) (Or.inr ⟨_, rfl⟩) dX8_init_172 (V_nx fun S45 e9 => ?_)
    replace h := h S45 e9; clear e9
    refine V_aload_n (pc := 175) C dX8_init_175 rfl 0 rfl ?_
    refine V_sipush (pc := 176) C (v := 1440) dX8_init_176 rfl ?_
    refine V_newmI (pc := 179) C hT tb0_g (j := 27) (by decide) rfl (by decide) g541 dX8_init_179 h (fun h => V_nx fun S46 e9 => ?_)
    replace h := h S46 e9; clear e9
    refine V_putM (pc := 181) C hT f0_X8_27 (by decide) (by unfold lc; decide) g1005 (Or.inr ⟨rfl, hnm, rfl⟩) (Or.inr ⟨_, rfl⟩) dX8_init_181 (V_nx fun S47 e9 => ?_)
    replace h := h S47 e9; clear e9
    refine V_aload_n (pc := 184) C dX8_init_184 rfl 0 rfl ?_
    refine V_bipush (pc := 185) C (v := 30) dX8_init_185 rfl ?_
    refine V_newmI (pc := 187) C hT tb0_g (j := 28) (by decide) rfl (by decide) g541 dX8_init_187 h (fun h => V_nx fun S48 e9 => ?_)
    replace h := h S48 e9; clear e9
    refine V_putM (pc := 189) C hT f0_X8_28 (by decide) (by unfold lc; decide) g1006 (Or.inr ⟨rfl, hnm, rfl⟩) (Or.inr ⟨_, rfl⟩) dX8_init_189 (V_nx fun S49 e9 => ?_)
    replace h := h S49 e9; clear e9
    refine V_aload_n (pc := 192) C dX8_init_192 rfl 0 rfl ?_
    refine V_sipush (pc := 193) C (v := 1200) dX8_init_193 rfl ?_
    refine V_newmI (pc := 196) C hT tb0_g (j := 29) (by decide) rfl (by decide) g541 dX8_init_196 h (fun h => V_nx fun S50 e9 => ?_)
    replace h := h S50 e9; clear e9
    refine V_putM (pc := 198) C hT f0_X8_29 (by decide) (by unfold lc; decide) g1007 (Or.inr ⟨rfl, hnm, rfl⟩) (Or.inr ⟨_, rfl⟩) dX8_init_198 (V_nx fun S51 e9 => ?_)
    replace h := h S51 e9; clear e9
    refine V_aload_n (pc := 201) C dX8_init_201 rfl 0 rfl ?_
    refine V_sipush (pc := 202) C (v := 1200) dX8_init_202 rfl ?_
    refine V_newmZ (pc := 205) C hT tb0_g (j := 30) (by decide) rfl (by decide) g1108 dX8_init_205 h (fun h => V_nx fun S52 e9 => ?_)
    replace h := h S52 e9; clear e9
    refine V_putM (pc := 207) C hT f0_X8_30 (by decide) (by unfold lc; decide) g1008 (Or.inr ⟨rfl, hnm, rfl⟩) (Or.inr ⟨_, rfl⟩) dX8_init_207 (V_nx fun S53 e9 => ?_)
    replace h := h S53 e9; clear e9
    refine V_aload_n (pc := 210) C dX8_init_210 rfl 0 rfl ?_
    refine V_bipush (pc := 211) C (v := 100) dX8_init_211 rfl ?_
    refine V_newmI (pc := 213) C hT tb0_g (j := 32) (by decide) rfl (by decide) g541 dX8_init_213 h (fun h => V_nx fun S54 e9 => ?_)
    replace h := h S54 e9; clear e9
    refine V_putM (pc := 215) C hT f0_X8_32 (by decide) (by unfold lc; decide) g1010 (Or.inr ⟨rfl, hnm, rfl⟩) (Or.inr ⟨_, rfl⟩) dX8_init_215 (V_nx fun S55 e9 => ?_)
    replace h := h S55 e9; clear e9
    refine V_aload_n (pc := 218) C dX8_init_218 rfl 0 rfl ?_
    refine V_bipush (pc := 219) C (v := 100) dX8_init_219 rfl ?_
    refine V_newmI (pc := 221) C hT tb0_g (j := 33) (by decide) rfl (by decide) g541 dX8_init_221 h (fun h => V_nx fun S56 e9 => ?_)
    replace h := h S56 e9; clear e9
    refine V_putM (pc := 223) C hT f0_X8_33 (by decide) (by unfold lc; decide) g1011 (Or.inr ⟨rfl, hnm, rfl⟩) (Or.inr ⟨_, rfl⟩) dX8_init_223 (V_nx fun S57 e9 => ?_)
    replace h := h S57 e9; clear e9
    refine V_aload_n (pc := 226) C dX8_init_226 rfl 0 rfl ?_
    refine V_bipush (pc := 227) C (v := 100) dX8_init_227 rfl ?_
    refine V_newmI (pc := 229) C hT tb0_g (j := 34) (by decide) rfl (by decide) g541 dX8_init_229 h (fun h => V_nx fun S58 e9 => ?_)
    replace h := h S58 e9; clear e9
    refine V_putM (pc := 231) C hT f0_X8_34 (by decide) (by unfold lc; decide) g1012 (Or.inr ⟨rfl, hnm, rfl⟩) (Or.inr ⟨_, rfl⟩) dX8_init_231 (V_nx fun S59 e9 => ?_)
    replace h := h S59 e9; clear e9
    refine V_aload_n (pc := 234) C dX8_init_234 rfl 0 rfl ?_
    refine V_bipush (pc := 235) C (v := 100) dX8_init_235 rfl ?_
    refine V_newmZ (pc := 237) C hT tb0_g (j := 35) (by decide) rfl (by decide) g1108 dX8_init_237 h (fun h => V_nx fun S60 e9 => ?_)
    replace h := h S60 e9; clear e9
    refine V_putM (pc := 239) C hT f0_X8_35 (by decide) (by unfold lc; decide) g1013 (Or.inr ⟨rfl, hnm, rfl⟩) (Or.inr ⟨_, rfl⟩) dX8_init_239 (V_nx fun S61 e9 => ?_)
    replace h := h S61 e9; clear e9
    refine V_aload_n (pc := 242) C dX8_init_242 rfl 0 rfl ?_
    refine V_sipush (pc := 243) C (v := 400) dX8_init_243 rfl ?_
    refine V_newmI (pc := 246) C hT tb0_g (j := 37) (by decide) rfl (by decide) g541 dX8_init_246 h (fun h => V_nx fun S62 e9 => ?_)
    replace h := h S62 e9; clear e9
    refine V_putM (pc := 248) C hT f0_X8_37 (by decide) (by unfold lc; decide) g1015 (Or.inr ⟨rfl, hnm, rfl⟩) (Or.inr ⟨_, rfl⟩) dX8_init_248 (V_nx fun S63 e9 => ?_)
    replace h := h S63 e9; clear e9
    refine V_aload_n (pc := 251) C dX8_init_251 rfl 0 rfl ?_
    refine V_sipush (pc := 252) C (v := 400) dX8_init_252 rfl ?_
    refine V_newmI (pc := 255) C hT tb0_g (j := 38) (by decide) rfl (by decide) g541 dX8_init_255 h (fun h => V_nx fun S64 e9 => ?_)
    replace h := h S64 e9; clear e9
    refine V_putM (pc := 257) C hT f0_X8_38 (by decide) (by unfold lc; decide) g1016 (Or.inr ⟨rfl, hnm, rfl⟩) (Or.inr ⟨_, rfl⟩) dX8_init_257 (V_nx fun S65 e9 => ?_)
    replace h := h S65 e9; clear e9
    refine V_aload_n (pc := 260) C dX8_init_260 rfl 0 rfl ?_
    refine V_sipush (pc := 261) C (v := 400) dX8_init_261 rfl ?_
    refine V_newmI (pc := 264) C hT tb0_g (j := 39) (by decide) rfl (by decide) g541 dX8_init_264 h (fun h => V_nx fun S66 e9 => ?_)
    replace h := h S66 e9; clear e9
    refine V_putM (pc := 266) C hT f0_X8_39 (by decide) (by unfold lc; decide) g1017 (Or.inr ⟨rfl, hnm, rfl⟩) (Or.inr ⟨_, rfl⟩) dX8_init_266 (V_nx fun S67 e9 => ?_)
    replace h := h S67 e9; clear e9
    refine V_aload_n (pc := 269) C dX8_init_269 rfl 0 rfl ?_
    refine V_sipush (pc := 270) C (v := 400) dX8_init_270 rfl ?_
    refine V_newmI (pc := 273) C hT tb0_g (j := 40) (by decide) rfl (by decide) g541 dX8_init_273 h (fun h => V_nx fun S68 e9 => ?_)
    replace h := h S68 e9; clear e9
    refine V_putM (pc := 275) C hT f0_X8_40 (by decide) (by unfold lc; decide) g1018 (Or.inr ⟨rfl, hnm, rfl⟩) (Or.inr ⟨_, rfl⟩) dX8_init_275 (V_nx fun S69 e9 => ?_)
    replace h := h S69 e9; clear e9
    refine V_aload_n (pc := 278) C dX8_init_278 rfl 0 rfl ?_
    refine V_sipush (pc := 279) C (v := 400) dX8_init_279 rfl ?_
    refine V_newmZ (pc := 282) C hT tb0_g (j := 41) (by decide) rfl (by decide) g1108 dX8_init_282 h (fun h => V_nx fun S70 e9 => ?_)
    replace h := h S70 e9; clear e9
    refine V_putM (pc := 284) C hT f0_X8_41 (by decide) (by unfold lc; decide) g1019 (Or.inr ⟨rfl, hnm, rfl⟩) (Or.inr ⟨_, rfl⟩) dX8_init_284 (V_nx fun S71 e9 => ?_)
    replace h := h S71 e9; clear e9
    refine V_iconst (pc := 287) C (v := 0) dX8_init_287 rfl ?_
    refine V_istore_n (pc := 288) C dX8_init_288 rfl (by decide) rfl ?_
    refine V_sub [1, 0] rfl ?_
    obtain ⟨n9, h⟩ := h
    exact k_X8_init_289 hT hl C hr hnm htab  n9 h
end IB
