section LA
variable {X : Cx} {p : Program} {l : Launch} {e : Env} {R : Room} {s : State} {m : MethodId} {args : Array Value} {below : List Frame} {meth : Method} {c : Code} {S0 : Sg} {ad0 : Nat → Nat} {Qa : Nat → Int32 → Sg → Prop}
/-- the script, read: any number from 0 to n - 1 -/
def w_L_part (k n : Int32) (S : Sg) (Q : Nat → Int32 → Sg → Prop) : Prop := 0 ≤ k ∧ 0 < n ∧ ∀ x, 0 ≤ x → x < n → Q 0 x S
theorem pl_L_part : (parseMethodDescriptor yL_part.desc).map (fun d => d.parameters.length) = some 3 := by decide +kernel
theorem z_rem {x d : Int32} (h : 0 ≤ x) (hd : 0 < d) : (x - x / d * d).toInt = x.toInt % d.toInt ∧ 0 ≤ x - x / d * d ∧ x - x / d * d < d := by
  have z0 : (0 : Int32).toInt = 0 := rfl
  have e1 := z_div h hd
  have h1 := z_le.mp h
  have h2 := z_lt.mp hd
  have h3 := x.toInt_lt
  have h5 : 0 ≤ x.toInt / d.toInt := Int.ediv_nonneg (by omega) (by omega)
  have h6 : x.toInt / d.toInt * d.toInt ≤ x.toInt := Int.ediv_mul_le _ (by omega)
  have h7 : 0 ≤ x.toInt / d.toInt * d.toInt := Int.mul_nonneg h5 (by omega)
  have e2 : (x / d * d).toInt = x.toInt / d.toInt * d.toInt := by
    rw [z_mul (x := x / d) (y := d) (by rw [e1]; omega) (by rw [e1]; omega), e1]
  have e3 : (x - x / d * d).toInt = x.toInt - x.toInt / d.toInt * d.toInt := by
    rw [Int32.toInt_sub, e2, Int.bmod_eq_of_le (by omega) (by omega)]
  have e4 : x.toInt - x.toInt / d.toInt * d.toInt = x.toInt % d.toInt := by
    have := Int.mul_ediv_add_emod x.toInt d.toInt
    rw [Int.mul_comm] at this
    omega
  have h8 := Int.emod_nonneg x.toInt (b := d.toInt) (by omega)
  have h9 := Int.emod_lt_of_pos x.toInt (b := d.toInt) (by omega)
  refine ⟨e3.trans e4, ?_, ?_⟩
  · rw [z_le, e3, e4]; omega
  · rw [z_lt, e3, e4]; omega
theorem and_pos (v : Int32) : 0 ≤ v &&& 2147483647 := by
  have h : (v &&& 2147483647).toBitVec.msb = false := by
    rw [Int32.toBitVec_and, BitVec.msb_and]
    have : (2147483647 : Int32).toBitVec.msb = false := by decide
    rw [this, Bool.and_false]
  rw [z_le]
  show (0 : Int) ≤ (v &&& 2147483647).toBitVec.toInt
  rw [BitVec.toInt_eq_msb_cond, h]
  simp
theorem ct_L_part (hT : xT X = tb1) (hl : l.stackTraces = false) {a1 a2 : Int32} {S : Sg} (h : w_L_part a1 a2 S Qa) : CT X k0 l yL_part cL_part 4 (some .int) 1 32 [Value.ref 63, Value.int a1, Value.int a2] rvI S Qa :=
  CT_ofV (own := RL) (by decide +kernel) (le8 rfl) rfl hl fun p e R s m args below meth c ad0 C hr hnm htab => by
    obtain ⟨h0, hn, hq⟩ := h
    have hK := C.2.2.2.2.1
    obtain ⟨-, -, -, -, -, -, -, -, -, -, -, -, -, -, L9, xs9, hx9, hx8, hx7⟩ := And.intro hK.1 hK.2
    have fin : ∀ v : Int32, V X p l e R s m args below meth c 4 (QM X below args s S ad0 rvI Qa) S ad0 S 25 [(0, Value.ref 63), (1, Value.int a1), (2, Value.int a2)] [Value.int v] := fun v => by
      refine V_istore_n (pc := 25) C dL_part_25 rfl (by decide) rfl ?_
      refine V_iload_n (pc := 26) C dL_part_26 rfl 0 rfl ?_
      refine V_ldc (pc := 27) C g118 dL_part_27 ?_
      refine V_iand (pc := 29) C dL_part_29 ?_
      refine V_iload_n (pc := 30) C dL_part_30 rfl 3 rfl ?_
      refine V_irem (pc := 31) C dL_part_31 (fun z => by rw [z] at hn; exact absurd hn (by decide)) ?_
      have hz := z_rem (and_pos v) hn
      exact V_iret (pc := 32) C hr rfl (hq _ hz.2.1 hz.2.2) dL_part_32
    refine V_iload_n (pc := 0) C dL_part_0 rfl 1 rfl ?_
    refine V_aload_n (pc := 1) C dL_part_1 rfl 0 rfl ?_
    refine V_slen (pc := 2) C hx9 hx8 dL_part_2 ?_
    have hh : (Int32.ofNat L9 ≤ a1 → Int32.ofNat L9 ≤ a1) ∧ (¬ Int32.ofNat L9 ≤ a1 → ¬ Int32.ofNat L9 ≤ a1) := ⟨id, id⟩
    refine V_icmp_ge (pc := 3) (tgt := 12) C dL_part_3 (by decide) hh (fun h => ?_) (fun h => ?_)
    · refine V_sipush (pc := 12) C (v := 1051) dL_part_12 rfl ?_
      refine V_iload_n (pc := 15) C dL_part_15 rfl 1 rfl ?_
      refine V_imul (pc := 16) C dL_part_16 ?_
      refine V_sipush (pc := 17) C (v := 941) dL_part_17 rfl ?_
      refine V_iload_n (pc := 20) C dL_part_20 rfl 1 rfl ?_
      refine V_imul (pc := 21) C dL_part_21 ?_
      refine V_iload_n (pc := 22) C dL_part_22 rfl 1 rfl ?_
      refine V_imul (pc := 23) C dL_part_23 ?_
      refine V_iadd (pc := 24) C dL_part_24 ?_
      exact fin _
    · refine V_aload_n (pc := 6) C dL_part_6 rfl 0 rfl ?_
      refine V_iload_n (pc := 7) C dL_part_7 rfl 1 rfl ?_
      refine V_sld (pc := 8) C hx9 hx8 (vp_of h0 (show a1 < Int32.ofNat L9 by lia) (by omega)) dL_part_8 ?_
      refine V_goto (pc := 9) (tgt := 25) C dL_part_9 (by decide) ?_
      exact fin _
theorem pl_L_state : (parseMethodDescriptor yL_state.desc).map (fun d => d.parameters.length) = some 2 := by decide +kernel
def w_L_state (a1 : Int32) (S : Sg) (Q : Nat → Int32 → Sg → Prop) : Prop := (vp_in a1 11 ∧ Q 0 ((S.1 106 (nt a1)) / 16) S)
theorem ct_L_state (hT : xT X = tb1) (hl : l.stackTraces = false) {a1 : Int32} {S : Sg} (h : w_L_state a1 S Qa) : CT X k0 l yL_state cL_state 2 (some .int) 1 0 [Value.ref (enc 13 6), Value.int a1] rvI S Qa :=
  CT_ofV (own := RL) (by decide +kernel) (le8 rfl) rfl hl fun p e R s m args below meth c ad0 C hr hnm htab => by
    refine V_aload_n (pc := 0) C dL_state_0 rfl 0 rfl ?_
    refine V_iload_n (pc := 1) C dL_state_1 rfl 1 rfl ?_
    refine V_mld (pc := 2) C hT tb1_arr (n := 11) (c9 := 106) rfl rfl rfl h dL_state_2 (fun h => ?_)
    refine V_bipush (pc := 3) C (v := 16) dL_state_3 rfl ?_
    refine V_idiv (pc := 5) C dL_state_5 (by decide) ?_
    exact V_iret (pc := 6) C hr rfl h dL_state_6
theorem pl_L_end : (parseMethodDescriptor yL_end.desc).map (fun d => d.parameters.length) = some 3 := by decide +kernel
def w_L_end (a2 : Int32) (S : Sg) (Q : Nat → Int32 → Sg → Prop) : Prop := (vp_in (5 + a2) 11 ∧ (vp_in a2 11 ∧ (vp_in (8 * ((S.1 106 (nt a2)) - (S.1 106 (nt a2)) / 4 * 4)) 24 ∧ Q 0 ((S.1 106 (nt (5 + a2))) + (S.1 104 (nt (8 * ((S.1 106 (nt a2)) - (S.1 106 (nt a2)) / 4 * 4))))) S)))
theorem ct_L_end (hT : xT X = tb1) (hl : l.stackTraces = false) {a2 : Int32} {S : Sg} (h : w_L_end a2 S Qa) : CT X k0 l yL_end cL_end 3 (some .int) 1 0 [Value.ref (enc 13 4), Value.ref (enc 13 6), Value.int a2] rvI S Qa :=
  CT_ofV (own := RL) (by decide +kernel) (le8 rfl) rfl hl fun p e R s m args below meth c ad0 C hr hnm htab => by
    refine V_aload_n (pc := 0) C dL_end_0 rfl 1 rfl ?_
    refine V_iconst (pc := 1) C (v := 5) dL_end_1 rfl ?_
    refine V_iload_n (pc := 2) C dL_end_2 rfl 2 rfl ?_
    refine V_iadd (pc := 3) C dL_end_3 ?_
    refine V_mld (pc := 4) C hT tb1_arr (n := 11) (c9 := 106) rfl rfl rfl h dL_end_4 (fun h => ?_)
    refine V_aload_n (pc := 5) C dL_end_5 rfl 0 rfl ?_
    refine V_bipush (pc := 6) C (v := 8) dL_end_6 rfl ?_
    refine V_aload_n (pc := 8) C dL_end_8 rfl 1 rfl ?_
    refine V_iload_n (pc := 9) C dL_end_9 rfl 2 rfl ?_
    refine V_mld (pc := 10) C hT tb1_arr (n := 11) (c9 := 106) rfl rfl rfl h dL_end_10 (fun h => ?_)
    refine V_iconst (pc := 11) C (v := 4) dL_end_11 rfl ?_
    refine V_irem (pc := 12) C dL_end_12 (by decide) ?_
    refine V_imul (pc := 13) C dL_end_13 ?_
    refine V_mld (pc := 14) C hT tb1_arr (n := 24) (c9 := 104) rfl rfl rfl h dL_end_14 (fun h => ?_)
    refine V_iadd (pc := 15) C dL_end_15 ?_
    exact V_iret (pc := 16) C hr rfl h dL_end_16
theorem pl_L_fits : (parseMethodDescriptor yL_fits.desc).map (fun d => d.parameters.length) = some 8 := by decide +kernel
def w_L_fits_257 (k99 : Int32 → Int32 → Int32 → Int32 → Int32 → Int32 → Int32 → Int32 → Sg → Prop) (Q : Nat → Int32 → Sg → Prop) (x6 : Int32) (x7 : Int32) (x8 : Int32) (x9 : Int32) (x10 : Int32) (x11 : Int32) (x12 : Int32) (x13 : Int32) (S : Sg) : Prop := k99 x6 x7 x8 x9 x10 x11 x12 (x13 + 1) S
theorem k_L_fits_257 (hT : xT X = tb1) (hl : l.stackTraces = false) (C : Cn X k0 p l R s m meth c cL_fits RL 16 2 22) (hr : meth.sig.returnType = (some .int)) (hnm : meth.name = yL_fits.name) (htab : (∀ x ∈ c.exceptionTable.toList, False)) {k99 : Int32 → Int32 → Int32 → Int32 → Int32 → Int32 → Int32 → Int32 → Sg → Prop} (hk99 : ∀ {x6 : Int32} {x7 : Int32} {x8 : Int32} {x9 : Int32} {x10 : Int32} {x11 : Int32} {x12 : Int32} {x13 : Int32} {S : Sg}, k99 x6 x7 x8 x9 x10 x11 x12 x13 S → V X p l e R s m args below meth c 16 (QM X below args s S0 ad0 rvI Qa) S0 ad0 S 99 [(0, Value.ref (enc 13 3)), (1, Value.ref (enc 13 4)), (3, Value.ref (enc 13 6)), (4, Value.ref (enc 13 12)), (6, Value.int x6), (7, Value.int x7), (8, Value.int x8), (9, Value.int x9), (10, Value.int x10), (11, Value.int x11), (12, Value.int x12), (13, Value.int x13)] []) {x6 : Int32} {x7 : Int32} {x8 : Int32} {x9 : Int32} {x10 : Int32} {x11 : Int32} {x12 : Int32} {x13 : Int32} {S : Sg} (h : w_L_fits_257 k99 Qa x6 x7 x8 x9 x10 x11 x12 x13 S) : V X p l e R s m args below meth c 16 (QM X below args s S0 ad0 rvI Qa) S0 ad0 S 257 [(0, Value.ref (enc 13 3)), (1, Value.ref (enc 13 4)), (3, Value.ref (enc 13 6)), (4, Value.ref (enc 13 12)), (6, Value.int x6), (7, Value.int x7), (8, Value.int x8), (9, Value.int x9), (10, Value.int x10), (11, Value.int x11), (12, Value.int x12), (13, Value.int x13)] [] := by
  refine V_iinc (pc := 257) C (a := 11) (v := x13 + 1) dL_fits_257 rfl rfl (by decide) rfl ?_
  refine V_goto (pc := 260) (tgt := 99) C dL_fits_260 (by decide) ?_
  refine V_sub [1, 2, 3, 4, 5, 6, 7, 8, 9, 10, 11, 0] rfl ?_
  exact hk99 h
def w_L_fits_254 (k99 : Int32 → Int32 → Int32 → Int32 → Int32 → Int32 → Int32 → Int32 → Sg → Prop) (Q : Nat → Int32 → Sg → Prop) (x6 : Int32) (x7 : Int32) (x8 : Int32) (x9 : Int32) (x11 : Int32) (x12 : Int32) (x13 : Int32) (y0 : Int32) (y1 : Int32) (S : Sg) : Prop := (∀ v1, v1 = y1 + y0 → w_L_fits_257 k99 Q x6 x7 x8 x9 v1 x11 x12 x13 S)
theorem k_L_fits_254 (hT : xT X = tb1) (hl : l.stackTraces = false) (C : Cn X k0 p l R s m meth c cL_fits RL 16 2 22) (hr : meth.sig.returnType = (some .int)) (hnm : meth.name = yL_fits.name) (htab : (∀ x ∈ c.exceptionTable.toList, False)) {k99 : Int32 → Int32 → Int32 → Int32 → Int32 → Int32 → Int32 → Int32 → Sg → Prop} (hk99 : ∀ {x6 : Int32} {x7 : Int32} {x8 : Int32} {x9 : Int32} {x10 : Int32} {x11 : Int32} {x12 : Int32} {x13 : Int32} {S : Sg}, k99 x6 x7 x8 x9 x10 x11 x12 x13 S → V X p l e R s m args below meth c 16 (QM X below args s S0 ad0 rvI Qa) S0 ad0 S 99 [(0, Value.ref (enc 13 3)), (1, Value.ref (enc 13 4)), (3, Value.ref (enc 13 6)), (4, Value.ref (enc 13 12)), (6, Value.int x6), (7, Value.int x7), (8, Value.int x8), (9, Value.int x9), (10, Value.int x10), (11, Value.int x11), (12, Value.int x12), (13, Value.int x13)] []) {x6 : Int32} {x7 : Int32} {x8 : Int32} {x9 : Int32} {x11 : Int32} {x12 : Int32} {x13 : Int32} {y0 : Int32} {y1 : Int32} {S : Sg} (h : w_L_fits_254 k99 Qa x6 x7 x8 x9 x11 x12 x13 y0 y1 S) : V X p l e R s m args below meth c 16 (QM X below args s S0 ad0 rvI Qa) S0 ad0 S 254 [(0, Value.ref (enc 13 3)), (1, Value.ref (enc 13 4)), (3, Value.ref (enc 13 6)), (4, Value.ref (enc 13 12)), (6, Value.int x6), (7, Value.int x7), (8, Value.int x8), (9, Value.int x9), (11, Value.int x11), (12, Value.int x12), (13, Value.int x13)] [Value.int y0, Value.int y1] := by
  refine V_iadd (pc := 254) C dL_fits_254 ?_
  refine V_nI fun v1 e9 => ?_
  replace h := h v1 e9; clear e9
  refine V_istore (pc := 255) C dL_fits_255 (by decide) rfl ?_
  refine V_sub [1, 2, 3, 4, 5, 6, 7, 8, 0, 9, 10, 11] rfl ?_
  exact k_L_fits_257 hT hl C hr hnm htab (fun h => hk99 h) h
def w_L_fits_230 (k99 : Int32 → Int32 → Int32 → Int32 → Int32 → Int32 → Int32 → Int32 → Sg → Prop) (Q : Nat → Int32 → Sg → Prop) (x6 : Int32) (x7 : Int32) (x8 : Int32) (x9 : Int32) (x10 : Int32) (x11 : Int32) (x13 : Int32) (x14 : Int32) (y0 : Int32) (S : Sg) : Prop := ((x14 = 0 → w_L_fits_254 k99 Q x6 x7 x8 x9 x11 y0 x13 0 x10 S) ∧ (¬ x14 = 0 → (vp_in x13 11 ∧ (vp_in (8 * ((S.1 106 (nt x13)) - (S.1 106 (nt x13)) / 4 * 4)) 24 ∧ w_L_fits_254 k99 Q x6 x7 x8 x9 x11 y0 x13 (S.1 104 (nt (8 * ((S.1 106 (nt x13)) - (S.1 106 (nt x13)) / 4 * 4)))) x10 S))))
theorem k_L_fits_230 (hT : xT X = tb1) (hl : l.stackTraces = false) (C : Cn X k0 p l R s m meth c cL_fits RL 16 2 22) (hr : meth.sig.returnType = (some .int)) (hnm : meth.name = yL_fits.name) (htab : (∀ x ∈ c.exceptionTable.toList, False)) {k99 : Int32 → Int32 → Int32 → Int32 → Int32 → Int32 → Int32 → Int32 → Sg → Prop} (hk99 : ∀ {x6 : Int32} {x7 : Int32} {x8 : Int32} {x9 : Int32} {x10 : Int32} {x11 : Int32} {x12 : Int32} {x13 : Int32} {S : Sg}, k99 x6 x7 x8 x9 x10 x11 x12 x13 S → V X p l e R s m args below meth c 16 (QM X below args s S0 ad0 rvI Qa) S0 ad0 S 99 [(0, Value.ref (enc 13 3)), (1, Value.ref (enc 13 4)), (3, Value.ref (enc 13 6)), (4, Value.ref (enc 13 12)), (6, Value.int x6), (7, Value.int x7), (8, Value.int x8), (9, Value.int x9), (10, Value.int x10), (11, Value.int x11), (12, Value.int x12), (13, Value.int x13)] []) {x6 : Int32} {x7 : Int32} {x8 : Int32} {x9 : Int32} {x10 : Int32} {x11 : Int32} {x13 : Int32} {x14 : Int32} {y0 : Int32} {S : Sg} (h : w_L_fits_230 k99 Qa x6 x7 x8 x9 x10 x11 x13 x14 y0 S) : V X p l e R s m args below meth c 16 (QM X below args s S0 ad0 rvI Qa) S0 ad0 S 230 [(0, Value.ref (enc 13 3)), (1, Value.ref (enc 13 4)), (3, Value.ref (enc 13 6)), (4, Value.ref (enc 13 12)), (6, Value.int x6), (7, Value.int x7), (8, Value.int x8), (9, Value.int x9), (10, Value.int x10), (11, Value.int x11), (13, Value.int x13), (14, Value.int x14)] [Value.int y0] := by
  refine V_istore (pc := 230) C dL_fits_230 (by decide) rfl ?_
  refine V_iload (pc := 232) C dL_fits_232 9 rfl ?_
  refine V_iload (pc := 234) C dL_fits_234 12 rfl ?_
  refine V_if_eq (pc := 236) (tgt := 253) C dL_fits_236 (by decide) h (fun h => ?_) (fun h => ?_)
  · refine V_iconst (pc := 253) C (v := 0) dL_fits_253 rfl ?_
    refine V_sub [1, 2, 3, 4, 5, 6, 7, 8, 10, 0, 11] rfl ?_
    exact k_L_fits_254 hT hl C hr hnm htab (fun h => hk99 h) h
  · refine V_aload_n (pc := 239) C dL_fits_239 rfl 2 rfl ?_
    refine V_bipush (pc := 240) C (v := 8) dL_fits_240 rfl ?_
    refine V_aload_n (pc := 242) C dL_fits_242 rfl 3 rfl ?_
    refine V_iload (pc := 243) C dL_fits_243 11 rfl ?_
    refine V_mld (pc := 245) C hT tb1_arr (n := 11) (c9 := 106) rfl rfl rfl h dL_fits_245 (fun h => ?_)
    refine V_iconst (pc := 246) C (v := 4) dL_fits_246 rfl ?_
    refine V_irem (pc := 247) C dL_fits_247 (by decide) ?_
    refine V_imul (pc := 248) C dL_fits_248 ?_
    refine V_mld (pc := 249) C hT tb1_arr (n := 24) (c9 := 104) rfl rfl rfl h dL_fits_249 (fun h => ?_)
    refine V_goto (pc := 250) (tgt := 254) C dL_fits_250 (by decide) ?_
    refine V_sub [1, 2, 3, 4, 5, 6, 7, 8, 10, 0, 11] rfl ?_
    exact k_L_fits_254 hT hl C hr hnm htab (fun h => hk99 h) h
def w_L_fits_229 (k99 : Int32 → Int32 → Int32 → Int32 → Int32 → Int32 → Int32 → Int32 → Sg → Prop) (Q : Nat → Int32 → Sg → Prop) (x6 : Int32) (x7 : Int32) (x8 : Int32) (x9 : Int32) (x10 : Int32) (x11 : Int32) (x13 : Int32) (x14 : Int32) (S : Sg) : Prop := w_L_fits_230 k99 Q x6 x7 x8 x9 x10 x11 x13 x14 0 S
theorem k_L_fits_229 (hT : xT X = tb1) (hl : l.stackTraces = false) (C : Cn X k0 p l R s m meth c cL_fits RL 16 2 22) (hr : meth.sig.returnType = (some .int)) (hnm : meth.name = yL_fits.name) (htab : (∀ x ∈ c.exceptionTable.toList, False)) {k99 : Int32 → Int32 → Int32 → Int32 → Int32 → Int32 → Int32 → Int32 → Sg → Prop} (hk99 : ∀ {x6 : Int32} {x7 : Int32} {x8 : Int32} {x9 : Int32} {x10 : Int32} {x11 : Int32} {x12 : Int32} {x13 : Int32} {S : Sg}, k99 x6 x7 x8 x9 x10 x11 x12 x13 S → V X p l e R s m args below meth c 16 (QM X below args s S0 ad0 rvI Qa) S0 ad0 S 99 [(0, Value.ref (enc 13 3)), (1, Value.ref (enc 13 4)), (3, Value.ref (enc 13 6)), (4, Value.ref (enc 13 12)), (6, Value.int x6), (7, Value.int x7), (8, Value.int x8), (9, Value.int x9), (10, Value.int x10), (11, Value.int x11), (12, Value.int x12), (13, Value.int x13)] []) {x6 : Int32} {x7 : Int32} {x8 : Int32} {x9 : Int32} {x10 : Int32} {x11 : Int32} {x13 : Int32} {x14 : Int32} {S : Sg} (h : w_L_fits_229 k99 Qa x6 x7 x8 x9 x10 x11 x13 x14 S) : V X p l e R s m args below meth c 16 (QM X below args s S0 ad0 rvI Qa) S0 ad0 S 229 [(0, Value.ref (enc 13 3)), (1, Value.ref (enc 13 4)), (3, Value.ref (enc 13 6)), (4, Value.ref (enc 13 12)), (6, Value.int x6), (7, Value.int x7), (8, Value.int x8), (9, Value.int x9), (10, Value.int x10), (11, Value.int x11), (13, Value.int x13), (14, Value.int x14)] [] := by
  refine V_iconst (pc := 229) C (v := 0) dL_fits_229 rfl ?_
  refine V_sub [0, 1, 2, 3, 4, 5, 6, 7, 8, 9, 10, 11] rfl ?_
  exact k_L_fits_230 hT hl C hr hnm htab (fun h => hk99 h) h
def w_L_fits_225 (k99 : Int32 → Int32 → Int32 → Int32 → Int32 → Int32 → Int32 → Int32 → Sg → Prop) (Q : Nat → Int32 → Sg → Prop) (x6 : Int32) (x7 : Int32) (x8 : Int32) (x9 : Int32) (x10 : Int32) (x11 : Int32) (x13 : Int32) (x14 : Int32) (S : Sg) : Prop := w_L_fits_230 k99 Q x6 x7 x8 x9 x10 x11 x13 x14 1 S
theorem k_L_fits_225 (hT : xT X = tb1) (hl : l.stackTraces = false) (C : Cn X k0 p l R s m meth c cL_fits RL 16 2 22) (hr : meth.sig.returnType = (some .int)) (hnm : meth.name = yL_fits.name) (htab : (∀ x ∈ c.exceptionTable.toList, False)) {k99 : Int32 → Int32 → Int32 → Int32 → Int32 → Int32 → Int32 → Int32 → Sg → Prop} (hk99 : ∀ {x6 : Int32} {x7 : Int32} {x8 : Int32} {x9 : Int32} {x10 : Int32} {x11 : Int32} {x12 : Int32} {x13 : Int32} {S : Sg}, k99 x6 x7 x8 x9 x10 x11 x12 x13 S → V X p l e R s m args below meth c 16 (QM X below args s S0 ad0 rvI Qa) S0 ad0 S 99 [(0, Value.ref (enc 13 3)), (1, Value.ref (enc 13 4)), (3, Value.ref (enc 13 6)), (4, Value.ref (enc 13 12)), (6, Value.int x6), (7, Value.int x7), (8, Value.int x8), (9, Value.int x9), (10, Value.int x10), (11, Value.int x11), (12, Value.int x12), (13, Value.int x13)] []) {x6 : Int32} {x7 : Int32} {x8 : Int32} {x9 : Int32} {x10 : Int32} {x11 : Int32} {x13 : Int32} {x14 : Int32} {S : Sg} (h : w_L_fits_225 k99 Qa x6 x7 x8 x9 x10 x11 x13 x14 S) : V X p l e R s m args below meth c 16 (QM X below args s S0 ad0 rvI Qa) S0 ad0 S 225 [(0, Value.ref (enc 13 3)), (1, Value.ref (enc 13 4)), (3, Value.ref (enc 13 6)), (4, Value.ref (enc 13 12)), (6, Value.int x6), (7, Value.int x7), (8, Value.int x8), (9, Value.int x9), (10, Value.int x10), (11, Value.int x11), (13, Value.int x13), (14, Value.int x14)] [] := by
  refine V_iconst (pc := 225) C (v := 1) dL_fits_225 rfl ?_
  refine V_goto (pc := 226) (tgt := 230) C dL_fits_226 (by decide) ?_
  refine V_sub [0, 1, 2, 3, 4, 5, 6, 7, 8, 9, 10, 11] rfl ?_
  exact k_L_fits_230 hT hl C hr hnm htab (fun h => hk99 h) h
def w_L_fits_189 (k99 : Int32 → Int32 → Int32 → Int32 → Int32 → Int32 → Int32 → Int32 → Sg → Prop) (Q : Nat → Int32 → Sg → Prop) (x6 : Int32) (x7 : Int32) (x8 : Int32) (x9 : Int32) (x10 : Int32) (x12 : Int32) (x13 : Int32) (x14 : Int32) (x15 : Int32) (y0 : Int32) (S : Sg) : Prop := ((x12 = 0 → ((x14 = 0 → (vp_in 1 8 ∧ (((S.1 112 (nt 1)) ≤ (x7 - x15) → w_L_fits_229 k99 Q x6 x7 x8 x9 x10 y0 x13 x14 S) ∧ (¬ (S.1 112 (nt 1)) ≤ (x7 - x15) → (vp_in 1 8 ∧ (((S.1 112 (nt 1)) ≤ (x15 - x7) → w_L_fits_229 k99 Q x6 x7 x8 x9 x10 y0 x13 x14 S) ∧ (¬ (S.1 112 (nt 1)) ≤ (x15 - x7) → w_L_fits_225 k99 Q x6 x7 x8 x9 x10 y0 x13 x14 S))))))) ∧ (¬ x14 = 0 → w_L_fits_229 k99 Q x6 x7 x8 x9 x10 y0 x13 x14 S))) ∧ (¬ x12 = 0 → w_L_fits_225 k99 Q x6 x7 x8 x9 x10 y0 x13 x14 S))
theorem k_L_fits_189 (hT : xT X = tb1) (hl : l.stackTraces = false) (C : Cn X k0 p l R s m meth c cL_fits RL 16 2 22) (hr : meth.sig.returnType = (some .int)) (hnm : meth.name = yL_fits.name) (htab : (∀ x ∈ c.exceptionTable.toList, False)) {k99 : Int32 → Int32 → Int32 → Int32 → Int32 → Int32 → Int32 → Int32 → Sg → Prop} (hk99 : ∀ {x6 : Int32} {x7 : Int32} {x8 : Int32} {x9 : Int32} {x10 : Int32} {x11 : Int32} {x12 : Int32} {x13 : Int32} {S : Sg}, k99 x6 x7 x8 x9 x10 x11 x12 x13 S → V X p l e R s m args below meth c 16 (QM X below args s S0 ad0 rvI Qa) S0 ad0 S 99 [(0, Value.ref (enc 13 3)), (1, Value.ref (enc 13 4)), (3, Value.ref (enc 13 6)), (4, Value.ref (enc 13 12)), (6, Value.int x6), (7, Value.int x7), (8, Value.int x8), (9, Value.int x9), (10, Value.int x10), (11, Value.int x11), (12, Value.int x12), (13, Value.int x13)] []) {x6 : Int32} {x7 : Int32} {x8 : Int32} {x9 : Int32} {x10 : Int32} {x12 : Int32} {x13 : Int32} {x14 : Int32} {x15 : Int32} {y0 : Int32} {S : Sg} (h : w_L_fits_189 k99 Qa x6 x7 x8 x9 x10 x12 x13 x14 x15 y0 S) : V X p l e R s m args below meth c 16 (QM X below args s S0 ad0 rvI Qa) S0 ad0 S 189 [(0, Value.ref (enc 13 3)), (1, Value.ref (enc 13 4)), (3, Value.ref (enc 13 6)), (4, Value.ref (enc 13 12)), (6, Value.int x6), (7, Value.int x7), (8, Value.int x8), (9, Value.int x9), (10, Value.int x10), (12, Value.int x12), (13, Value.int x13), (14, Value.int x14), (15, Value.int x15)] [Value.int y0] := by
  refine V_istore (pc := 189) C dL_fits_189 (by decide) rfl ?_
  refine V_iload (pc := 191) C dL_fits_191 10 rfl ?_
  refine V_if_ne (pc := 193) (tgt := 225) C dL_fits_193 (by decide) h (fun h => ?_) (fun h => ?_)
  · refine V_sub [1, 2, 3, 4, 5, 6, 7, 8, 9, 0, 11, 12] rfl ?_
    exact k_L_fits_225 hT hl C hr hnm htab (fun h => hk99 h) h
  · refine V_iload (pc := 196) C dL_fits_196 12 rfl ?_
    refine V_if_ne (pc := 198) (tgt := 229) C dL_fits_198 (by decide) h (fun h => ?_) (fun h => ?_)
    · refine V_sub [1, 2, 3, 4, 5, 6, 7, 8, 9, 0, 11, 12] rfl ?_
      exact k_L_fits_229 hT hl C hr hnm htab (fun h => hk99 h) h
    · refine V_iload (pc := 201) C dL_fits_201 6 rfl ?_
      refine V_iload (pc := 203) C dL_fits_203 13 rfl ?_
      refine V_isub (pc := 205) C dL_fits_205 ?_
      refine V_aload (pc := 206) C dL_fits_206 4 rfl ?_
      refine V_iconst (pc := 208) C (v := 1) dL_fits_208 rfl ?_
      refine V_mld (pc := 209) C hT tb1_arr (n := 8) (c9 := 112) rfl rfl rfl h dL_fits_209 (fun h => ?_)
      refine V_icmp_ge (pc := 210) (tgt := 229) C dL_fits_210 (by decide) h (fun h => ?_) (fun h => ?_)
      · refine V_sub [1, 2, 3, 4, 5, 6, 7, 8, 9, 0, 11, 12] rfl ?_
        exact k_L_fits_229 hT hl C hr hnm htab (fun h => hk99 h) h
      · refine V_iload (pc := 213) C dL_fits_213 13 rfl ?_
        refine V_iload (pc := 215) C dL_fits_215 6 rfl ?_
        refine V_isub (pc := 217) C dL_fits_217 ?_
        refine V_aload (pc := 218) C dL_fits_218 4 rfl ?_
        refine V_iconst (pc := 220) C (v := 1) dL_fits_220 rfl ?_
        refine V_mld (pc := 221) C hT tb1_arr (n := 8) (c9 := 112) rfl rfl rfl h dL_fits_221 (fun h => ?_)
        refine V_icmp_ge (pc := 222) (tgt := 229) C dL_fits_222 (by decide) h (fun h => ?_) (fun h => ?_)
        · refine V_sub [1, 2, 3, 4, 5, 6, 7, 8, 9, 0, 11, 12] rfl ?_
          exact k_L_fits_229 hT hl C hr hnm htab (fun h => hk99 h) h
        · refine V_sub [1, 2, 3, 4, 5, 6, 7, 8, 9, 0, 11, 12] rfl ?_
          exact k_L_fits_225 hT hl C hr hnm htab (fun h => hk99 h) h
def w_L_fits_188 (k99 : Int32 → Int32 → Int32 → Int32 → Int32 → Int32 → Int32 → Int32 → Sg → Prop) (Q : Nat → Int32 → Sg → Prop) (x6 : Int32) (x7 : Int32) (x8 : Int32) (x9 : Int32) (x10 : Int32) (x12 : Int32) (x13 : Int32) (x14 : Int32) (x15 : Int32) (S : Sg) : Prop := w_L_fits_189 k99 Q x6 x7 x8 x9 x10 x12 x13 x14 x15 0 S
theorem k_L_fits_188 (hT : xT X = tb1) (hl : l.stackTraces = false) (C : Cn X k0 p l R s m meth c cL_fits RL 16 2 22) (hr : meth.sig.returnType = (some .int)) (hnm : meth.name = yL_fits.name) (htab : (∀ x ∈ c.exceptionTable.toList, False)) {k99 : Int32 → Int32 → Int32 → Int32 → Int32 → Int32 → Int32 → Int32 → Sg → Prop} (hk99 : ∀ {x6 : Int32} {x7 : Int32} {x8 : Int32} {x9 : Int32} {x10 : Int32} {x11 : Int32} {x12 : Int32} {x13 : Int32} {S : Sg}, k99 x6 x7 x8 x9 x10 x11 x12 x13 S → V X p l e R s m args below meth c 16 (QM X below args s S0 ad0 rvI Qa) S0 ad0 S 99 [(0, Value.ref (enc 13 3)), (1, Value.ref (enc 13 4)), (3, Value.ref (enc 13 6)), (4, Value.ref (enc 13 12)), (6, Value.int x6), (7, Value.int x7), (8, Value.int x8), (9, Value.int x9), (10, Value.int x10), (11, Value.int x11), (12, Value.int x12), (13, Value.int x13)] []) {x6 : Int32} {x7 : Int32} {x8 : Int32} {x9 : Int32} {x10 : Int32} {x12 : Int32} {x13 : Int32} {x14 : Int32} {x15 : Int32} {S : Sg} (h : w_L_fits_188 k99 Qa x6 x7 x8 x9 x10 x12 x13 x14 x15 S) : V X p l e R s m args below meth c 16 (QM X below args s S0 ad0 rvI Qa) S0 ad0 S 188 [(0, Value.ref (enc 13 3)), (1, Value.ref (enc 13 4)), (3, Value.ref (enc 13 6)), (4, Value.ref (enc 13 12)), (6, Value.int x6), (7, Value.int x7), (8, Value.int x8), (9, Value.int x9), (10, Value.int x10), (12, Value.int x12), (13, Value.int x13), (14, Value.int x14), (15, Value.int x15)] [] := by
  refine V_iconst (pc := 188) C (v := 0) dL_fits_188 rfl ?_
  refine V_sub [0, 1, 2, 3, 4, 5, 6, 7, 8, 9, 10, 11, 12] rfl ?_
  exact k_L_fits_189 hT hl C hr hnm htab (fun h => hk99 h) h
def w_L_fits_184 (k99 : Int32 → Int32 → Int32 → Int32 → Int32 → Int32 → Int32 → Int32 → Sg → Prop) (Q : Nat → Int32 → Sg → Prop) (x6 : Int32) (x7 : Int32) (x8 : Int32) (x9 : Int32) (x10 : Int32) (x12 : Int32) (x13 : Int32) (x14 : Int32) (x15 : Int32) (S : Sg) : Prop := w_L_fits_189 k99 Q x6 x7 x8 x9 x10 x12 x13 x14 x15 1 S
theorem k_L_fits_184 (hT : xT X = tb1) (hl : l.stackTraces = false) (C : Cn X k0 p l R s m meth c cL_fits RL 16 2 22) (hr : meth.sig.returnType = (some .int)) (hnm : meth.name = yL_fits.name) (htab : (∀ x ∈ c.exceptionTable.toList, False)) {k99 : Int32 → Int32 → Int32 → Int32 → Int32 → Int32 → Int32 → Int32 → Sg → Prop} (hk99 : ∀ {x6 : Int32} {x7 : Int32} {x8 : Int32} {x9 : Int32} {x10 : Int32} {x11 : Int32} {x12 : Int32} {x13 : Int32} {S : Sg}, k99 x6 x7 x8 x9 x10 x11 x12 x13 S → V X p l e R s m args below meth c 16 (QM X below args s S0 ad0 rvI Qa) S0 ad0 S 99 [(0, Value.ref (enc 13 3)), (1, Value.ref (enc 13 4)), (3, Value.ref (enc 13 6)), (4, Value.ref (enc 13 12)), (6, Value.int x6), (7, Value.int x7), (8, Value.int x8), (9, Value.int x9), (10, Value.int x10), (11, Value.int x11), (12, Value.int x12), (13, Value.int x13)] []) {x6 : Int32} {x7 : Int32} {x8 : Int32} {x9 : Int32} {x10 : Int32} {x12 : Int32} {x13 : Int32} {x14 : Int32} {x15 : Int32} {S : Sg} (h : w_L_fits_184 k99 Qa x6 x7 x8 x9 x10 x12 x13 x14 x15 S) : V X p l e R s m args below meth c 16 (QM X below args s S0 ad0 rvI Qa) S0 ad0 S 184 [(0, Value.ref (enc 13 3)), (1, Value.ref (enc 13 4)), (3, Value.ref (enc 13 6)), (4, Value.ref (enc 13 12)), (6, Value.int x6), (7, Value.int x7), (8, Value.int x8), (9, Value.int x9), (10, Value.int x10), (12, Value.int x12), (13, Value.int x13), (14, Value.int x14), (15, Value.int x15)] [] := by
  refine V_iconst (pc := 184) C (v := 1) dL_fits_184 rfl ?_
  refine V_goto (pc := 185) (tgt := 189) C dL_fits_185 (by decide) ?_
  refine V_sub [0, 1, 2, 3, 4, 5, 6, 7, 8, 9, 10, 11, 12] rfl ?_
  exact k_L_fits_189 hT hl C hr hnm htab (fun h => hk99 h) h
def w_L_fits_126 (k99 : Int32 → Int32 → Int32 → Int32 → Int32 → Int32 → Int32 → Int32 → Sg → Prop) (Q : Nat → Int32 → Sg → Prop) (x6 : Int32) (x7 : Int32) (x8 : Int32) (x9 : Int32) (x10 : Int32) (x11 : Int32) (x12 : Int32) (x13 : Int32) (y0 : Int32) (S : Sg) : Prop := (vp_in (5 + x13) 11 ∧ (∀ v2, v2 = S.1 106 (nt (5 + x13)) → (w_L_state x13 S (fun k5 v4 S3 => (k5 = 0 → ((2 ≤ v4 → w_L_fits_257 k99 Q x6 x7 x8 x9 x10 x11 x12 x13 S3) ∧ (¬ 2 ≤ v4 → ((x11 = 0 → ((y0 = 0 → w_L_fits_188 k99 Q x6 x7 x8 x9 x10 x12 x13 y0 v2 S3) ∧ (¬ y0 = 0 → (w_L_end x13 S3 (fun k8 v7 S6 => (k8 = 0 → (((v7 + 20) ≤ x7 → w_L_fits_188 k99 Q x6 x7 x8 x9 x10 x12 x13 y0 v2 S6) ∧ (¬ (v7 + 20) ≤ x7 → ((((x7 + x8) + 20) ≤ v2 → w_L_fits_188 k99 Q x6 x7 x8 x9 x10 x12 x13 y0 v2 S6) ∧ (¬ ((x7 + x8) + 20) ≤ v2 → w_L_fits_184 k99 Q x6 x7 x8 x9 x10 x12 x13 y0 v2 S6))))) ∧ (¬ k8 = 0 → Q k8 0 S6)))))) ∧ (¬ x11 = 0 → w_L_fits_184 k99 Q x6 x7 x8 x9 x10 x12 x13 y0 v2 S3))))) ∧ (¬ k5 = 0 → Q k5 0 S3)))))
theorem k_L_fits_126 (hT : xT X = tb1) (hl : l.stackTraces = false) (C : Cn X k0 p l R s m meth c cL_fits RL 16 2 22) (hr : meth.sig.returnType = (some .int)) (hnm : meth.name = yL_fits.name) (htab : (∀ x ∈ c.exceptionTable.toList, False)) {k99 : Int32 → Int32 → Int32 → Int32 → Int32 → Int32 → Int32 → Int32 → Sg → Prop} (hk99 : ∀ {x6 : Int32} {x7 : Int32} {x8 : Int32} {x9 : Int32} {x10 : Int32} {x11 : Int32} {x12 : Int32} {x13 : Int32} {S : Sg}, k99 x6 x7 x8 x9 x10 x11 x12 x13 S → V X p l e R s m args below meth c 16 (QM X below args s S0 ad0 rvI Qa) S0 ad0 S 99 [(0, Value.ref (enc 13 3)), (1, Value.ref (enc 13 4)), (3, Value.ref (enc 13 6)), (4, Value.ref (enc 13 12)), (6, Value.int x6), (7, Value.int x7), (8, Value.int x8), (9, Value.int x9), (10, Value.int x10), (11, Value.int x11), (12, Value.int x12), (13, Value.int x13)] []) {x6 : Int32} {x7 : Int32} {x8 : Int32} {x9 : Int32} {x10 : Int32} {x11 : Int32} {x12 : Int32} {x13 : Int32} {y0 : Int32} {S : Sg} (h : w_L_fits_126 k99 Qa x6 x7 x8 x9 x10 x11 x12 x13 y0 S) : V X p l e R s m args below meth c 16 (QM X below args s S0 ad0 rvI Qa) S0 ad0 S 126 [(0, Value.ref (enc 13 3)), (1, Value.ref (enc 13 4)), (3, Value.ref (enc 13 6)), (4, Value.ref (enc 13 12)), (6, Value.int x6), (7, Value.int x7), (8, Value.int x8), (9, Value.int x9), (10, Value.int x10), (11, Value.int x11), (12, Value.int x12), (13, Value.int x13)] [Value.int y0] := by
  refine V_istore (pc := 126) C dL_fits_126 (by decide) rfl ?_
  refine V_aload_n (pc := 128) C dL_fits_128 rfl 3 rfl ?_
  refine V_iconst (pc := 129) C (v := 5) dL_fits_129 rfl ?_
  refine V_iload (pc := 130) C dL_fits_130 12 rfl ?_
  refine V_iadd (pc := 132) C dL_fits_132 ?_
  refine V_mld (pc := 133) C hT tb1_arr (n := 11) (c9 := 106) rfl rfl rfl h dL_fits_133 (fun h => ?_)
  refine V_nI fun v2 e9 => ?_
  replace h := h v2 e9; clear e9
  refine V_istore (pc := 134) C dL_fits_134 (by decide) rfl ?_
  refine V_aload_n (pc := 136) C dL_fits_136 rfl 4 rfl ?_
  refine V_iload (pc := 137) C dL_fits_137 13 rfl ?_
  refine V_callS (pc := 139) C (ct_L_state hT hl h) g794 g795 g796 g32 ⟨by decide, by decide, pl_L_state⟩ ⟨by decide, by decide⟩ (rest := []) rfl (le8 rfl) dL_fits_139 (fun v4 S3 h => ?_) (fun k9 S9 hk h => VX_out C htab hk (h.2 (by omega)))
  replace h := h.1 rfl
  refine V_st (st' := [Value.int v4]) rfl ?_
  refine V_iconst (pc := 142) C (v := 2) dL_fits_142 rfl ?_
  refine V_icmp_ge (pc := 143) (tgt := 257) C dL_fits_143 (by decide) h (fun h => ?_) (fun h => ?_)
  · refine V_sub [2, 3, 4, 5, 6, 7, 8, 9, 10, 11, 12, 13] rfl ?_
    exact k_L_fits_257 hT hl C hr hnm htab (fun h => hk99 h) h
  · refine V_iload (pc := 146) C dL_fits_146 11 rfl ?_
    refine V_if_ne (pc := 148) (tgt := 184) C dL_fits_148 (by decide) h (fun h => ?_) (fun h => ?_)
    · refine V_sub [2, 3, 4, 5, 6, 7, 8, 9, 10, 12, 13, 1, 0] rfl ?_
      exact k_L_fits_184 hT hl C hr hnm htab (fun h => hk99 h) h
    · refine V_iload (pc := 151) C dL_fits_151 1 rfl ?_
      refine V_if_eq (pc := 153) (tgt := 188) C dL_fits_153 (by decide) h (fun h => ?_) (fun h => ?_)
      · refine V_sub [2, 3, 4, 5, 6, 7, 8, 9, 10, 12, 13, 1, 0] rfl ?_
        exact k_L_fits_188 hT hl C hr hnm htab (fun h => hk99 h) h
      · refine V_iload (pc := 156) C dL_fits_156 7 rfl ?_
        refine V_aload_n (pc := 158) C dL_fits_158 rfl 3 rfl ?_
        refine V_aload_n (pc := 159) C dL_fits_159 rfl 4 rfl ?_
        refine V_iload (pc := 160) C dL_fits_160 13 rfl ?_
        refine V_callS (pc := 162) C (ct_L_end hT hl h) g808 g809 g810 g32 ⟨by decide, by decide, pl_L_end⟩ ⟨by decide, by decide⟩ (rest := [Value.int x7]) rfl (le8 rfl) dL_fits_162 (fun v7 S6 h => ?_) (fun k9 S9 hk h => VX_out C htab hk (h.2 (by omega)))
        replace h := h.1 rfl
        refine V_st (st' := [Value.int v7, Value.int x7]) rfl ?_
        refine V_bipush (pc := 165) C (v := 20) dL_fits_165 rfl ?_
        refine V_iadd (pc := 167) C dL_fits_167 ?_
        refine V_icmp_ge (pc := 168) (tgt := 188) C dL_fits_168 (by decide) h (fun h => ?_) (fun h => ?_)
        · refine V_sub [2, 3, 4, 5, 6, 7, 8, 9, 10, 12, 13, 1, 0] rfl ?_
          exact k_L_fits_188 hT hl C hr hnm htab (fun h => hk99 h) h
        · refine V_iload (pc := 171) C dL_fits_171 0 rfl ?_
          refine V_iload (pc := 173) C dL_fits_173 7 rfl ?_
          refine V_iload (pc := 175) C dL_fits_175 8 rfl ?_
          refine V_iadd (pc := 177) C dL_fits_177 ?_
          refine V_bipush (pc := 178) C (v := 20) dL_fits_178 rfl ?_
          refine V_iadd (pc := 180) C dL_fits_180 ?_
          refine V_icmp_ge (pc := 181) (tgt := 188) C dL_fits_181 (by decide) h (fun h => ?_) (fun h => ?_)
          · refine V_sub [2, 3, 4, 5, 6, 7, 8, 9, 10, 12, 13, 1, 0] rfl ?_
            exact k_L_fits_188 hT hl C hr hnm htab (fun h => hk99 h) h
          · refine V_sub [2, 3, 4, 5, 6, 7, 8, 9, 10, 12, 13, 1, 0] rfl ?_
            exact k_L_fits_184 hT hl C hr hnm htab (fun h => hk99 h) h
def w_L_fits_99  (Q : Nat → Int32 → Sg → Prop) : Nat → Int32 → Int32 → Int32 → Int32 → Int32 → Int32 → Int32 → Int32 → Sg → Prop
  | 0, _, _, _, _, _, _, _, _, _ => False
  | n + 1, x6, x7, x8, x9, x10, x11, x12, x13, S => (vp_in 5 8 ∧ (((S.1 112 (nt 5)) ≤ x13 → ((x9 = 1 → Q 0 1 S) ∧ (¬ x9 = 1 → ((x11 = 0 → ((x12 = 0 → (vp_in (4 + x6) 7 ∧ ((x10 ≤ (S.1 103 (nt (4 + x6))) → Q 0 0 S) ∧ (¬ x10 ≤ (S.1 103 (nt (4 + x6))) → Q 0 4 S)))) ∧ (¬ x12 = 0 → Q 0 3 S))) ∧ (¬ x11 = 0 → Q 0 2 S))))) ∧ (¬ (S.1 112 (nt 5)) ≤ x13 → (vp_in x13 11 ∧ (((((S.1 106 (nt x13)) / 4) - ((S.1 106 (nt x13)) / 4) / 4 * 4) = x6 → w_L_fits_126 (fun x6 x7 x8 x9 x10 x11 x12 x13 S => w_L_fits_99  Q n x6 x7 x8 x9 x10 x11 x12 x13 S) Q x6 x7 x8 x9 x10 x11 x12 x13 1 S) ∧ (¬ (((S.1 106 (nt x13)) / 4) - ((S.1 106 (nt x13)) / 4) / 4 * 4) = x6 → w_L_fits_126 (fun x6 x7 x8 x9 x10 x11 x12 x13 S => w_L_fits_99  Q n x6 x7 x8 x9 x10 x11 x12 x13 S) Q x6 x7 x8 x9 x10 x11 x12 x13 0 S))))))
theorem k_L_fits_99 (hT : xT X = tb1) (hl : l.stackTraces = false) (C : Cn X k0 p l R s m meth c cL_fits RL 16 2 22) (hr : meth.sig.returnType = (some .int)) (hnm : meth.name = yL_fits.name) (htab : (∀ x ∈ c.exceptionTable.toList, False))  : ∀ n {x6 : Int32} {x7 : Int32} {x8 : Int32} {x9 : Int32} {x10 : Int32} {x11 : Int32} {x12 : Int32} {x13 : Int32} {S : Sg}, w_L_fits_99  Qa n x6 x7 x8 x9 x10 x11 x12 x13 S → V X p l e R s m args below meth c 16 (QM X below args s S0 ad0 rvI Qa) S0 ad0 S 99 [(0, Value.ref (enc 13 3)), (1, Value.ref (enc 13 4)), (3, Value.ref (enc 13 6)), (4, Value.ref (enc 13 12)), (6, Value.int x6), (7, Value.int x7), (8, Value.int x8), (9, Value.int x9), (10, Value.int x10), (11, Value.int x11), (12, Value.int x12), (13, Value.int x13)] [] := by
  intro n
  induction n with
  | zero => intro x6 x7 x8 x9 x10 x11 x12 x13 S h; exact h.elim
  | succ n ih =>
    intro x6 x7 x8 x9 x10 x11 x12 x13 S h
    refine V_iload (pc := 99) C dL_fits_99 11 rfl ?_
    refine V_aload (pc := 101) C dL_fits_101 3 rfl ?_
    refine V_iconst (pc := 103) C (v := 5) dL_fits_103 rfl ?_
    refine V_mld (pc := 104) C hT tb1_arr (n := 8) (c9 := 112) rfl rfl rfl h dL_fits_104 (fun h => ?_)
    refine V_icmp_ge (pc := 105) (tgt := 263) C dL_fits_105 (by decide) h (fun h => ?_) (fun h => ?_)
    · refine V_iload (pc := 263) C dL_fits_263 7 rfl ?_
      refine V_iconst (pc := 265) C (v := 1) dL_fits_265 rfl ?_
      refine V_icmp_ne (pc := 266) (tgt := 273) C dL_fits_266 (by decide) h (fun h => ?_) (fun h => ?_)
      · refine V_iload (pc := 273) C dL_fits_273 9 rfl ?_
        refine V_if_eq (pc := 275) (tgt := 282) C dL_fits_275 (by decide) h (fun h => ?_) (fun h => ?_)
        · refine V_iload (pc := 282) C dL_fits_282 10 rfl ?_
          refine V_if_eq (pc := 284) (tgt := 291) C dL_fits_284 (by decide) h (fun h => ?_) (fun h => ?_)
          · refine V_iload (pc := 291) C dL_fits_291 8 rfl ?_
            refine V_aload_n (pc := 293) C dL_fits_293 rfl 0 rfl ?_
            refine V_iconst (pc := 294) C (v := 4) dL_fits_294 rfl ?_
            refine V_iload (pc := 295) C dL_fits_295 4 rfl ?_
            refine V_iadd (pc := 297) C dL_fits_297 ?_
            refine V_mld (pc := 298) C hT tb1_arr (n := 7) (c9 := 103) rfl rfl rfl h dL_fits_298 (fun h => ?_)
            refine V_icmp_le (pc := 299) (tgt := 306) C dL_fits_299 (by decide) h (fun h => ?_) (fun h => ?_)
            · refine V_iconst (pc := 306) C (v := 0) dL_fits_306 rfl ?_
              exact V_iret (pc := 307) C hr rfl h dL_fits_307
            · refine V_iconst (pc := 302) C (v := 4) dL_fits_302 rfl ?_
              refine V_goto (pc := 303) (tgt := 307) C dL_fits_303 (by decide) ?_
              exact V_iret (pc := 307) C hr rfl h dL_fits_307
          · refine V_iconst (pc := 287) C (v := 3) dL_fits_287 rfl ?_
            refine V_goto (pc := 288) (tgt := 307) C dL_fits_288 (by decide) ?_
            exact V_iret (pc := 307) C hr rfl h dL_fits_307
        · refine V_iconst (pc := 278) C (v := 2) dL_fits_278 rfl ?_
          refine V_goto (pc := 279) (tgt := 307) C dL_fits_279 (by decide) ?_
          exact V_iret (pc := 307) C hr rfl h dL_fits_307
      · refine V_iconst (pc := 269) C (v := 1) dL_fits_269 rfl ?_
        refine V_goto (pc := 270) (tgt := 307) C dL_fits_270 (by decide) ?_
        exact V_iret (pc := 307) C hr rfl h dL_fits_307
    · refine V_aload_n (pc := 108) C dL_fits_108 rfl 2 rfl ?_
      refine V_iload (pc := 109) C dL_fits_109 11 rfl ?_
      refine V_mld (pc := 111) C hT tb1_arr (n := 11) (c9 := 106) rfl rfl rfl h dL_fits_111 (fun h => ?_)
      refine V_iconst (pc := 112) C (v := 4) dL_fits_112 rfl ?_
      refine V_idiv (pc := 113) C dL_fits_113 (by decide) ?_
      refine V_iconst (pc := 114) C (v := 4) dL_fits_114 rfl ?_
      refine V_irem (pc := 115) C dL_fits_115 (by decide) ?_
      refine V_iload (pc := 116) C dL_fits_116 4 rfl ?_
      refine V_icmp_ne (pc := 118) (tgt := 125) C dL_fits_118 (by decide) h (fun h => ?_) (fun h => ?_)
      · refine V_iconst (pc := 125) C (v := 0) dL_fits_125 rfl ?_
        refine V_sub [0, 1, 2, 3, 4, 5, 6, 7, 8, 9, 10, 11] rfl ?_
        exact k_L_fits_126 hT hl C hr hnm htab (fun h => ih h) h
      · refine V_iconst (pc := 121) C (v := 1) dL_fits_121 rfl ?_
        refine V_goto (pc := 122) (tgt := 126) C dL_fits_122 (by decide) ?_
        refine V_sub [0, 1, 2, 3, 4, 5, 6, 7, 8, 9, 10, 11] rfl ?_
        exact k_L_fits_126 hT hl C hr hnm htab (fun h => ih h) h
def w_L_fits_71 (k15 : Int32 → Int32 → Int32 → Int32 → Int32 → Int32 → Sg → Prop) (Q : Nat → Int32 → Sg → Prop) (x5 : Int32) (x6 : Int32) (x7 : Int32) (x8 : Int32) (x10 : Int32) (y0 : Int32) (S : Sg) : Prop := k15 x5 x6 x7 x8 y0 (x10 + 1) S
theorem k_L_fits_71 (hT : xT X = tb1) (hl : l.stackTraces = false) (C : Cn X k0 p l R s m meth c cL_fits RL 16 2 22) (hr : meth.sig.returnType = (some .int)) (hnm : meth.name = yL_fits.name) (htab : (∀ x ∈ c.exceptionTable.toList, False)) {k15 : Int32 → Int32 → Int32 → Int32 → Int32 → Int32 → Sg → Prop} (hk15 : ∀ {x5 : Int32} {x6 : Int32} {x7 : Int32} {x8 : Int32} {x9 : Int32} {x10 : Int32} {S : Sg}, k15 x5 x6 x7 x8 x9 x10 S → V X p l e R s m args below meth c 16 (QM X below args s S0 ad0 rvI Qa) S0 ad0 S 15 [(0, Value.ref (enc 13 3)), (1, Value.ref (enc 13 4)), (2, Value.ref (enc 13 5)), (3, Value.ref (enc 13 6)), (4, Value.ref (enc 13 12)), (5, Value.int x5), (6, Value.int x6), (7, Value.int x7), (8, Value.int x8), (9, Value.int x9), (10, Value.int x10)] []) {x5 : Int32} {x6 : Int32} {x7 : Int32} {x8 : Int32} {x10 : Int32} {y0 : Int32} {S : Sg} (h : w_L_fits_71 k15 Qa x5 x6 x7 x8 x10 y0 S) : V X p l e R s m args below meth c 16 (QM X below args s S0 ad0 rvI Qa) S0 ad0 S 71 [(0, Value.ref (enc 13 3)), (1, Value.ref (enc 13 4)), (2, Value.ref (enc 13 5)), (3, Value.ref (enc 13 6)), (4, Value.ref (enc 13 12)), (5, Value.int x5), (6, Value.int x6), (7, Value.int x7), (8, Value.int x8), (10, Value.int x10)] [Value.int y0] := by
  refine V_istore (pc := 71) C dL_fits_71 (by decide) rfl ?_
  refine V_iinc (pc := 73) C (a := 10) (v := x10 + 1) dL_fits_73 rfl rfl (by decide) rfl ?_
  refine V_goto (pc := 76) (tgt := 15) C dL_fits_76 (by decide) ?_
  refine V_sub [2, 3, 4, 5, 6, 7, 8, 9, 10, 1, 0] rfl ?_
  exact hk15 h
def w_L_fits_69 (k15 : Int32 → Int32 → Int32 → Int32 → Int32 → Int32 → Sg → Prop) (Q : Nat → Int32 → Sg → Prop) (x5 : Int32) (x6 : Int32) (x7 : Int32) (x8 : Int32) (x9 : Int32) (x10 : Int32) (S : Sg) : Prop := w_L_fits_71 k15 Q x5 x6 x7 x8 x10 x9 S
theorem k_L_fits_69 (hT : xT X = tb1) (hl : l.stackTraces = false) (C : Cn X k0 p l R s m meth c cL_fits RL 16 2 22) (hr : meth.sig.returnType = (some .int)) (hnm : meth.name = yL_fits.name) (htab : (∀ x ∈ c.exceptionTable.toList, False)) {k15 : Int32 → Int32 → Int32 → Int32 → Int32 → Int32 → Sg → Prop} (hk15 : ∀ {x5 : Int32} {x6 : Int32} {x7 : Int32} {x8 : Int32} {x9 : Int32} {x10 : Int32} {S : Sg}, k15 x5 x6 x7 x8 x9 x10 S → V X p l e R s m args below meth c 16 (QM X below args s S0 ad0 rvI Qa) S0 ad0 S 15 [(0, Value.ref (enc 13 3)), (1, Value.ref (enc 13 4)), (2, Value.ref (enc 13 5)), (3, Value.ref (enc 13 6)), (4, Value.ref (enc 13 12)), (5, Value.int x5), (6, Value.int x6), (7, Value.int x7), (8, Value.int x8), (9, Value.int x9), (10, Value.int x10)] []) {x5 : Int32} {x6 : Int32} {x7 : Int32} {x8 : Int32} {x9 : Int32} {x10 : Int32} {S : Sg} (h : w_L_fits_69 k15 Qa x5 x6 x7 x8 x9 x10 S) : V X p l e R s m args below meth c 16 (QM X below args s S0 ad0 rvI Qa) S0 ad0 S 69 [(0, Value.ref (enc 13 3)), (1, Value.ref (enc 13 4)), (2, Value.ref (enc 13 5)), (3, Value.ref (enc 13 6)), (4, Value.ref (enc 13 12)), (5, Value.int x5), (6, Value.int x6), (7, Value.int x7), (8, Value.int x8), (9, Value.int x9), (10, Value.int x10)] [] := by
  refine V_iload (pc := 69) C dL_fits_69 9 rfl ?_
  refine V_sub [0, 1, 2, 3, 4, 5, 6, 7, 8, 10] rfl ?_
  exact k_L_fits_71 hT hl C hr hnm htab (fun h => hk15 h) h
def w_L_fits_15  (Q : Nat → Int32 → Sg → Prop) : Nat → Int32 → Int32 → Int32 → Int32 → Int32 → Int32 → Sg → Prop
  | 0, _, _, _, _, _, _, _ => False
  | n + 1, x5, x6, x7, x8, x9, x10, S => (vp_in 4 8 ∧ (((S.1 112 (nt 4)) ≤ x10 → (vp_in (2 + x6) 7 ∧ (∀ v9, v9 = (S.1 103 (nt (2 + x6))) + x8 → ∃ n9, w_L_fits_99  Q n9 x6 x7 x8 x9 v9 0 0 0 S))) ∧ (¬ (S.1 112 (nt 4)) ≤ x10 → (vp_in x10 36 ∧ (((S.1 105 (nt x10)) = (x5 + (4 * x6)) → (vp_in (12 + x10) 36 ∧ ((x7 < (S.1 105 (nt (12 + x10))) → w_L_fits_69 (fun x5 x6 x7 x8 x9 x10 S => w_L_fits_15  Q n x5 x6 x7 x8 x9 x10 S) Q x5 x6 x7 x8 x9 x10 S) ∧ (¬ x7 < (S.1 105 (nt (12 + x10))) → (vp_in (24 + x10) 36 ∧ (((S.1 105 (nt (24 + x10))) < (x7 + x8) → w_L_fits_69 (fun x5 x6 x7 x8 x9 x10 S => w_L_fits_15  Q n x5 x6 x7 x8 x9 x10 S) Q x5 x6 x7 x8 x9 x10 S) ∧ (¬ (S.1 105 (nt (24 + x10))) < (x7 + x8) → w_L_fits_71 (fun x5 x6 x7 x8 x9 x10 S => w_L_fits_15  Q n x5 x6 x7 x8 x9 x10 S) Q x5 x6 x7 x8 x10 0 S))))))) ∧ (¬ (S.1 105 (nt x10)) = (x5 + (4 * x6)) → w_L_fits_69 (fun x5 x6 x7 x8 x9 x10 S => w_L_fits_15  Q n x5 x6 x7 x8 x9 x10 S) Q x5 x6 x7 x8 x9 x10 S))))))
theorem k_L_fits_15 (hT : xT X = tb1) (hl : l.stackTraces = false) (C : Cn X k0 p l R s m meth c cL_fits RL 16 2 22) (hr : meth.sig.returnType = (some .int)) (hnm : meth.name = yL_fits.name) (htab : (∀ x ∈ c.exceptionTable.toList, False))  : ∀ n {x5 : Int32} {x6 : Int32} {x7 : Int32} {x8 : Int32} {x9 : Int32} {x10 : Int32} {S : Sg}, w_L_fits_15  Qa n x5 x6 x7 x8 x9 x10 S → V X p l e R s m args below meth c 16 (QM X below args s S0 ad0 rvI Qa) S0 ad0 S 15 [(0, Value.ref (enc 13 3)), (1, Value.ref (enc 13 4)), (2, Value.ref (enc 13 5)), (3, Value.ref (enc 13 6)), (4, Value.ref (enc 13 12)), (5, Value.int x5), (6, Value.int x6), (7, Value.int x7), (8, Value.int x8), (9, Value.int x9), (10, Value.int x10)] [] := by
  intro n
  induction n with
  | zero => intro x5 x6 x7 x8 x9 x10 S h; exact h.elim
  | succ n ih =>
    intro x5 x6 x7 x8 x9 x10 S h
    refine V_iload (pc := 15) C dL_fits_15 10 rfl ?_
    refine V_aload (pc := 17) C dL_fits_17 4 rfl ?_
    refine V_iconst (pc := 19) C (v := 4) dL_fits_19 rfl ?_
    refine V_mld (pc := 20) C hT tb1_arr (n := 8) (c9 := 112) rfl rfl rfl h dL_fits_20 (fun h => ?_)
    refine V_icmp_ge (pc := 21) (tgt := 79) C dL_fits_21 (by decide) h (fun h => ?_) (fun h => ?_)
    · refine V_aload_n (pc := 79) C dL_fits_79 rfl 0 rfl ?_
      refine V_iconst (pc := 80) C (v := 2) dL_fits_80 rfl ?_
      refine V_iload (pc := 81) C dL_fits_81 6 rfl ?_
      refine V_iadd (pc := 83) C dL_fits_83 ?_
      refine V_mld (pc := 84) C hT tb1_arr (n := 7) (c9 := 103) rfl rfl rfl h dL_fits_84 (fun h => ?_)
      refine V_iload (pc := 85) C dL_fits_85 8 rfl ?_
      refine V_iadd (pc := 87) C dL_fits_87 ?_
      refine V_nI fun v9 e9 => ?_
      replace h := h v9 e9; clear e9
      refine V_istore (pc := 88) C dL_fits_88 (by decide) rfl ?_
      refine V_iconst (pc := 90) C (v := 0) dL_fits_90 rfl ?_
      refine V_istore (pc := 91) C dL_fits_91 (by decide) rfl ?_
      refine V_iconst (pc := 93) C (v := 0) dL_fits_93 rfl ?_
      refine V_istore (pc := 94) C dL_fits_94 (by decide) rfl ?_
      refine V_iconst (pc := 96) C (v := 0) dL_fits_96 rfl ?_
      refine V_istore (pc := 97) C dL_fits_97 (by decide) rfl ?_
      refine V_sub [4, 5, 7, 8, 10, 11, 12, 13, 3, 2, 1, 0] rfl ?_
      obtain ⟨n9, h⟩ := h
      exact k_L_fits_99 hT hl C hr hnm htab  n9 h
    · refine V_aload_n (pc := 24) C dL_fits_24 rfl 2 rfl ?_
      refine V_iload (pc := 25) C dL_fits_25 10 rfl ?_
      refine V_mld (pc := 27) C hT tb1_arr (n := 36) (c9 := 105) rfl rfl rfl h dL_fits_27 (fun h => ?_)
      refine V_iload (pc := 28) C dL_fits_28 5 rfl ?_
      refine V_iconst (pc := 30) C (v := 4) dL_fits_30 rfl ?_
      refine V_iload (pc := 31) C dL_fits_31 6 rfl ?_
      refine V_imul (pc := 33) C dL_fits_33 ?_
      refine V_iadd (pc := 34) C dL_fits_34 ?_
      refine V_icmp_ne (pc := 35) (tgt := 69) C dL_fits_35 (by decide) h (fun h => ?_) (fun h => ?_)
      · refine V_sub [0, 1, 2, 3, 4, 5, 6, 7, 8, 9, 10] rfl ?_
        exact k_L_fits_69 hT hl C hr hnm htab (fun h => ih h) h
      · refine V_aload_n (pc := 38) C dL_fits_38 rfl 2 rfl ?_
        refine V_bipush (pc := 39) C (v := 12) dL_fits_39 rfl ?_
        refine V_iload (pc := 41) C dL_fits_41 10 rfl ?_
        refine V_iadd (pc := 43) C dL_fits_43 ?_
        refine V_mld (pc := 44) C hT tb1_arr (n := 36) (c9 := 105) rfl rfl rfl h dL_fits_44 (fun h => ?_)
        refine V_iload (pc := 45) C dL_fits_45 7 rfl ?_
        refine V_icmp_gt (pc := 47) (tgt := 69) C dL_fits_47 (by decide) h (fun h => ?_) (fun h => ?_)
        · refine V_sub [0, 1, 2, 3, 4, 5, 6, 7, 8, 9, 10] rfl ?_
          exact k_L_fits_69 hT hl C hr hnm htab (fun h => ih h) h
        · refine V_aload_n (pc := 50) C dL_fits_50 rfl 2 rfl ?_
          refine V_bipush (pc := 51) C (v := 24) dL_fits_51 rfl ?_
          refine V_iload (pc := 53) C dL_fits_53 10 rfl ?_
          refine V_iadd (pc := 55) C dL_fits_55 ?_
          refine V_mld (pc := 56) C hT tb1_arr (n := 36) (c9 := 105) rfl rfl rfl h dL_fits_56 (fun h => ?_)
          refine V_iload (pc := 57) C dL_fits_57 7 rfl ?_
          refine V_iload (pc := 59) C dL_fits_59 8 rfl ?_
          refine V_iadd (pc := 61) C dL_fits_61 ?_
          refine V_icmp_lt (pc := 62) (tgt := 69) C dL_fits_62 (by decide) h (fun h => ?_) (fun h => ?_)
          · refine V_sub [0, 1, 2, 3, 4, 5, 6, 7, 8, 9, 10] rfl ?_
            exact k_L_fits_69 hT hl C hr hnm htab (fun h => ih h) h
          · refine V_iconst (pc := 65) C (v := 0) dL_fits_65 rfl ?_
            refine V_goto (pc := 66) (tgt := 71) C dL_fits_66 (by decide) ?_
            refine V_sub [0, 1, 2, 3, 4, 5, 6, 7, 8, 10] rfl ?_
            exact k_L_fits_71 hT hl C hr hnm htab (fun h => ih h) h
def w_L_fits (a5 : Int32) (a6 : Int32) (a7 : Int32) (S : Sg) (Q : Nat → Int32 → Sg → Prop) : Prop := (vp_in (8 * a5) 24 ∧ (∀ v10, v10 = S.1 104 (nt (8 * a5)) → ∃ n9, w_L_fits_15  Q n9 a5 a6 a7 v10 1 0 S))
theorem ct_L_fits (hT : xT X = tb1) (hl : l.stackTraces = false) {a5 : Int32} {a6 : Int32} {a7 : Int32} {S : Sg} (h : w_L_fits a5 a6 a7 S Qa) : CT X k0 l yL_fits cL_fits 16 (some .int) 2 22 [Value.ref (enc 13 3), Value.ref (enc 13 4), Value.ref (enc 13 5), Value.ref (enc 13 6), Value.ref (enc 13 12), Value.int a5, Value.int a6, Value.int a7] rvI S Qa :=
  CT_ofV (own := RL) (by decide +kernel) (le8 rfl) rfl hl fun p e R s m args below meth c ad0 C hr hnm htab => by
    refine V_aload_n (pc := 0) C dL_fits_0 rfl 1 rfl ?_
    refine V_bipush (pc := 1) C (v := 8) dL_fits_1 rfl ?_
    refine V_iload (pc := 3) C dL_fits_3 5 rfl ?_
    refine V_imul (pc := 5) C dL_fits_5 ?_
    refine V_mld (pc := 6) C hT tb1_arr (n := 24) (c9 := 104) rfl rfl rfl h dL_fits_6 (fun h => ?_)
    refine V_nI fun v10 e9 => ?_
    replace h := h v10 e9; clear e9
    refine V_istore (pc := 7) C dL_fits_7 (by decide) rfl ?_
    refine V_iconst (pc := 9) C (v := 1) dL_fits_9 rfl ?_
    refine V_istore (pc := 10) C dL_fits_10 (by decide) rfl ?_
    refine V_iconst (pc := 12) C (v := 0) dL_fits_12 rfl ?_
    refine V_istore (pc := 13) C dL_fits_13 (by decide) rfl ?_
    refine V_sub [3, 4, 5, 6, 7, 8, 9, 10, 2, 1, 0] rfl ?_
    obtain ⟨n9, h⟩ := h
    exact k_L_fits_15 hT hl C hr hnm htab  n9 h
theorem pl_L_price : (parseMethodDescriptor yL_price.desc).map (fun d => d.parameters.length) = some 4 := by decide +kernel
def w_L_price_52  (Q : Nat → Int32 → Sg → Prop) (x3 : Int32) (y0 : Int32) (y1 : Int32) (S : Sg) : Prop := (∀ v1, v1 = y1 - y0 → ((12 ≤ x3 → Q 0 v1 S) ∧ (¬ 12 ≤ x3 → Q 0 (v1 / 2) S)))
theorem k_L_price_52 (hT : xT X = tb1) (hl : l.stackTraces = false) (C : Cn X k0 p l R s m meth c cL_price RL 5 1 0) (hr : meth.sig.returnType = (some .int)) (hnm : meth.name = yL_price.name) (htab : (∀ x ∈ c.exceptionTable.toList, False))  {x3 : Int32} {y0 : Int32} {y1 : Int32} {S : Sg} (h : w_L_price_52  Qa x3 y0 y1 S) : V X p l e R s m args below meth c 5 (QM X below args s S0 ad0 rvI Qa) S0 ad0 S 52 [(3, Value.int x3)] [Value.int y0, Value.int y1] := by
  refine V_isub (pc := 52) C dL_price_52 ?_
  refine V_nI fun v1 e9 => ?_
  replace h := h v1 e9; clear e9
  refine V_istore (pc := 53) C dL_price_53 (by decide) rfl ?_
  refine V_iload_n (pc := 55) C dL_price_55 rfl 1 rfl ?_
  refine V_bipush (pc := 56) C (v := 12) dL_price_56 rfl ?_
  refine V_icmp_ge (pc := 58) (tgt := 68) C dL_price_58 (by decide) h (fun h => ?_) (fun h => ?_)
  · refine V_iload (pc := 68) C dL_price_68 0 rfl ?_
    exact V_iret (pc := 70) C hr rfl h dL_price_70
  · refine V_iload (pc := 61) C dL_price_61 0 rfl ?_
    refine V_iconst (pc := 63) C (v := 2) dL_price_63 rfl ?_
    refine V_idiv (pc := 64) C dL_price_64 (by decide) ?_
    refine V_goto (pc := 65) (tgt := 70) C dL_price_65 (by decide) ?_
    exact V_iret (pc := 70) C hr rfl h dL_price_70
def w_L_price_47  (Q : Nat → Int32 → Sg → Prop) (x3 : Int32) (y0 : Int32) (y1 : Int32) (y2 : Int32) (S : Sg) : Prop := w_L_price_52  Q x3 (y1 + y0) y2 S
theorem k_L_price_47 (hT : xT X = tb1) (hl : l.stackTraces = false) (C : Cn X k0 p l R s m meth c cL_price RL 5 1 0) (hr : meth.sig.returnType = (some .int)) (hnm : meth.name = yL_price.name) (htab : (∀ x ∈ c.exceptionTable.toList, False))  {x3 : Int32} {y0 : Int32} {y1 : Int32} {y2 : Int32} {S : Sg} (h : w_L_price_47  Qa x3 y0 y1 y2 S) : V X p l e R s m args below meth c 5 (QM X below args s S0 ad0 rvI Qa) S0 ad0 S 47 [(3, Value.int x3)] [Value.int y0, Value.int y1, Value.int y2] := by
  refine V_iadd (pc := 47) C dL_price_47 ?_
  refine V_goto (pc := 48) (tgt := 52) C dL_price_48 (by decide) ?_
  refine V_sub [0] rfl ?_
  exact k_L_price_52 hT hl C hr hnm htab  h
def w_L_price (a2 : Int32) (a3 : Int32) (S : Sg) (Q : Nat → Int32 → Sg → Prop) : Prop := (vp_in a2 11 ∧ (vp_in ((8 * ((S.1 106 (nt a2)) - (S.1 106 (nt a2)) / 4 * 4)) + 2) 24 ∧ (∀ v2, v2 = S.1 104 (nt ((8 * ((S.1 106 (nt a2)) - (S.1 106 (nt a2)) / 4 * 4)) + 2)) → (vp_in (5 + a2) 11 ∧ ((1080 ≤ ((S.1 106 (nt (5 + a2))) - (S.1 106 (nt (5 + a2))) / 1440 * 1440) → w_L_price_52  Q a3 0 v2 S) ∧ (¬ 1080 ≤ ((S.1 106 (nt (5 + a2))) - (S.1 106 (nt (5 + a2))) / 1440 * 1440) → (((v2 - v2 / 4 * 4) ≤ 0 → w_L_price_47  Q a3 0 (v2 / 4) v2 S) ∧ (¬ (v2 - v2 / 4 * 4) ≤ 0 → w_L_price_47  Q a3 1 (v2 / 4) v2 S))))))))
theorem ct_L_price (hT : xT X = tb1) (hl : l.stackTraces = false) {a2 : Int32} {a3 : Int32} {S : Sg} (h : w_L_price a2 a3 S Qa) : CT X k0 l yL_price cL_price 5 (some .int) 1 0 [Value.ref (enc 13 4), Value.ref (enc 13 6), Value.int a2, Value.int a3] rvI S Qa :=
  CT_ofV (own := RL) (by decide +kernel) (le8 rfl) rfl hl fun p e R s m args below meth c ad0 C hr hnm htab => by
    refine V_aload_n (pc := 0) C dL_price_0 rfl 0 rfl ?_
    refine V_bipush (pc := 1) C (v := 8) dL_price_1 rfl ?_
    refine V_aload_n (pc := 3) C dL_price_3 rfl 1 rfl ?_
    refine V_iload_n (pc := 4) C dL_price_4 rfl 2 rfl ?_
    refine V_mld (pc := 5) C hT tb1_arr (n := 11) (c9 := 106) rfl rfl rfl h dL_price_5 (fun h => ?_)
    refine V_iconst (pc := 6) C (v := 4) dL_price_6 rfl ?_
    refine V_irem (pc := 7) C dL_price_7 (by decide) ?_
    refine V_imul (pc := 8) C dL_price_8 ?_
    refine V_iconst (pc := 9) C (v := 2) dL_price_9 rfl ?_
    refine V_iadd (pc := 10) C dL_price_10 ?_
    refine V_mld (pc := 11) C hT tb1_arr (n := 24) (c9 := 104) rfl rfl rfl h dL_price_11 (fun h => ?_)
    refine V_nI fun v2 e9 => ?_
    replace h := h v2 e9; clear e9
    refine V_istore (pc := 12) C dL_price_12 (by decide) rfl ?_
    refine V_iload (pc := 14) C dL_price_14 0 rfl ?_
    refine V_aload_n (pc := 16) C dL_price_16 rfl 2 rfl ?_
    refine V_iconst (pc := 17) C (v := 5) dL_price_17 rfl ?_
    refine V_iload_n (pc := 18) C dL_price_18 rfl 3 rfl ?_
    refine V_iadd (pc := 19) C dL_price_19 ?_
    refine V_mld (pc := 20) C hT tb1_arr (n := 11) (c9 := 106) rfl rfl rfl h dL_price_20 (fun h => ?_)
    refine V_sipush (pc := 21) C (v := 1440) dL_price_21 rfl ?_
    refine V_irem (pc := 24) C dL_price_24 (by decide) ?_
    refine V_sipush (pc := 25) C (v := 1080) dL_price_25 rfl ?_
    refine V_icmp_ge (pc := 28) (tgt := 51) C dL_price_28 (by decide) h (fun h => ?_) (fun h => ?_)
    · refine V_iconst (pc := 51) C (v := 0) dL_price_51 rfl ?_
      refine V_sub [4] rfl ?_
      exact k_L_price_52 hT hl C hr hnm htab  h
    · refine V_iload (pc := 31) C dL_price_31 0 rfl ?_
      refine V_iconst (pc := 33) C (v := 4) dL_price_33 rfl ?_
      refine V_idiv (pc := 34) C dL_price_34 (by decide) ?_
      refine V_iload (pc := 35) C dL_price_35 0 rfl ?_
      refine V_iconst (pc := 37) C (v := 4) dL_price_37 rfl ?_
      refine V_irem (pc := 38) C dL_price_38 (by decide) ?_
      refine V_if_le (pc := 39) (tgt := 46) C dL_price_39 (by decide) h (fun h => ?_) (fun h => ?_)
      · refine V_iconst (pc := 46) C (v := 0) dL_price_46 rfl ?_
        refine V_sub [4] rfl ?_
        exact k_L_price_47 hT hl C hr hnm htab  h
      · refine V_iconst (pc := 42) C (v := 1) dL_price_42 rfl ?_
        refine V_goto (pc := 43) (tgt := 47) C dL_price_43 (by decide) ?_
        refine V_sub [4] rfl ?_
        exact k_L_price_47 hT hl C hr hnm htab  h
theorem pl_L_sells : (parseMethodDescriptor yL_sells.desc).map (fun d => d.parameters.length) = some 9 := by decide +kernel
def w_L_sells (a6 : Int32) (a7 : Int32) (a8 : Int32) (S : Sg) (Q : Nat → Int32 → Sg → Prop) : Prop := (vp_in 7 8 ∧ (vp_in (S.1 112 (nt 7)) 64 ∧ (∀ S1, S1 = su S 108 (nt (S.1 112 (nt 7))) ((a6 + (8 * a7)) + (128 * a8)) → (vp_in 7 8 ∧ (w_L_price a6 a8 S1 (fun k4 v3 S2 => (k4 = 0 → (vp_in (S1.1 112 (nt 7)) 64 ∧ (∀ S5, S5 = su S2 109 (nt (S1.1 112 (nt 7))) v3 → (vp_in 7 8 ∧ (vp_in 7 8 ∧ (∀ S6, S6 = su S5 112 (nt 7) ((S5.1 112 (nt 7)) + 1) → (vp_in 7 8 ∧ (vp_in ((12 * a6) + a7) 60 ∧ (∀ S7, S7 = su S6 107 (nt ((12 * a6) + a7)) (S6.1 112 (nt 7)) → (vp_in 7 8 ∧ Q 0 ((S7.1 112 (nt 7)) - 1) S7)))))))))) ∧ (¬ k4 = 0 → Q k4 0 S2)))))))
theorem ct_L_sells (hT : xT X = tb1) (hl : l.stackTraces = false) {a6 : Int32} {a7 : Int32} {a8 : Int32} {S : Sg} (h : w_L_sells a6 a7 a8 S Qa) : CT X k0 l yL_sells cL_sells 9 (some .int) 2 24 [Value.ref (enc 13 4), Value.ref (enc 13 6), Value.ref (enc 13 7), Value.ref (enc 13 8), Value.ref (enc 13 9), Value.ref (enc 13 12), Value.int a6, Value.int a7, Value.int a8] rvI S Qa :=
  CT_ofV (own := RL) (by decide +kernel) (le8 rfl) rfl hl fun p e R s m args below meth c ad0 C hr hnm htab => by
    refine V_aload_n (pc := 0) C dL_sells_0 rfl 3 rfl ?_
    refine V_aload (pc := 1) C dL_sells_1 5 rfl ?_
    refine V_bipush (pc := 3) C (v := 7) dL_sells_3 rfl ?_
    refine V_mld (pc := 5) C hT tb1_arr (n := 8) (c9 := 112) rfl rfl rfl h dL_sells_5 (fun h => ?_)
    refine V_iload (pc := 6) C dL_sells_6 6 rfl ?_
    refine V_bipush (pc := 8) C (v := 8) dL_sells_8 rfl ?_
    refine V_iload (pc := 10) C dL_sells_10 7 rfl ?_
    refine V_imul (pc := 12) C dL_sells_12 ?_
    refine V_iadd (pc := 13) C dL_sells_13 ?_
    refine V_sipush (pc := 14) C (v := 128) dL_sells_14 rfl ?_
    refine V_iload (pc := 17) C dL_sells_17 8 rfl ?_
    refine V_imul (pc := 19) C dL_sells_19 ?_
    refine V_iadd (pc := 20) C dL_sells_20 ?_
    refine V_mst (pc := 21) C hT tb1_arr (n := 64) (c9 := 108) (by decide) rfl rfl rfl h dL_sells_21 (fun h => V_nx fun S1 e9 => ?_)
    replace h := h S1 e9; clear e9
    refine V_aload (pc := 22) C dL_sells_22 4 rfl ?_
    refine V_aload (pc := 24) C dL_sells_24 5 rfl ?_
    refine V_bipush (pc := 26) C (v := 7) dL_sells_26 rfl ?_
    refine V_mld (pc := 28) C hT tb1_arr (n := 8) (c9 := 112) rfl rfl rfl h dL_sells_28 (fun h => ?_)
    refine V_aload_n (pc := 29) C dL_sells_29 rfl 0 rfl ?_
    refine V_aload_n (pc := 30) C dL_sells_30 rfl 1 rfl ?_
    refine V_iload (pc := 31) C dL_sells_31 6 rfl ?_
    refine V_iload (pc := 33) C dL_sells_33 8 rfl ?_
    refine V_callS (pc := 35) C (ct_L_price hT hl h) g828 g829 g830 g32 ⟨by decide, by decide, pl_L_price⟩ ⟨by decide, by decide⟩ (rest := [Value.int (S1.1 112 (nt 7)), Value.ref (enc 13 9)]) rfl (le8 rfl) dL_sells_35 (fun v3 S2 h => ?_) (fun k9 S9 hk h => VX_out C htab hk (h.2 (by omega)))
    replace h := h.1 rfl
    refine V_st (st' := [Value.int v3, Value.int (S1.1 112 (nt 7)), Value.ref (enc 13 9)]) rfl ?_
    refine V_mst (pc := 38) C hT tb1_arr (n := 64) (c9 := 109) (by decide) rfl rfl rfl h dL_sells_38 (fun h => V_nx fun S5 e9 => ?_)
    replace h := h S5 e9; clear e9
    refine V_aload (pc := 39) C dL_sells_39 5 rfl ?_
    refine V_bipush (pc := 41) C (v := 7) dL_sells_41 rfl ?_
    refine V_dup2 (pc := 43) C dL_sells_43 rfl rfl ?_
    refine V_mld (pc := 44) C hT tb1_arr (n := 8) (c9 := 112) rfl rfl rfl h dL_sells_44 (fun h => ?_)
    refine V_iconst (pc := 45) C (v := 1) dL_sells_45 rfl ?_
    refine V_iadd (pc := 46) C dL_sells_46 ?_
    refine V_mst (pc := 47) C hT tb1_arr (n := 8) (c9 := 112) (by decide) rfl rfl rfl h dL_sells_47 (fun h => V_nx fun S6 e9 => ?_)
    replace h := h S6 e9; clear e9
    refine V_aload_n (pc := 48) C dL_sells_48 rfl 2 rfl ?_
    refine V_bipush (pc := 49) C (v := 12) dL_sells_49 rfl ?_
    refine V_iload (pc := 51) C dL_sells_51 6 rfl ?_
    refine V_imul (pc := 53) C dL_sells_53 ?_
    refine V_iload (pc := 54) C dL_sells_54 7 rfl ?_
    refine V_iadd (pc := 56) C dL_sells_56 ?_
    refine V_aload (pc := 57) C dL_sells_57 5 rfl ?_
    refine V_bipush (pc := 59) C (v := 7) dL_sells_59 rfl ?_
    refine V_mld (pc := 61) C hT tb1_arr (n := 8) (c9 := 112) rfl rfl rfl h dL_sells_61 (fun h => ?_)
    refine V_mst (pc := 62) C hT tb1_arr (n := 60) (c9 := 107) (by decide) rfl rfl rfl h dL_sells_62 (fun h => V_nx fun S7 e9 => ?_)
    replace h := h S7 e9; clear e9
    refine V_aload (pc := 63) C dL_sells_63 5 rfl ?_
    refine V_bipush (pc := 65) C (v := 7) dL_sells_65 rfl ?_
    refine V_mld (pc := 67) C hT tb1_arr (n := 8) (c9 := 112) rfl rfl rfl h dL_sells_67 (fun h => ?_)
    refine V_iconst (pc := 68) C (v := 1) dL_sells_68 rfl ?_
    refine V_isub (pc := 69) C dL_sells_69 ?_
    exact V_iret (pc := 70) C hr rfl h dL_sells_70
theorem pl_L_people : (parseMethodDescriptor yL_people.desc).map (fun d => d.parameters.length) = some 2 := by decide +kernel
def w_L_people_2  (Q : Nat → Int32 → Sg → Prop) : Nat → Int32 → Int32 → Sg → Prop
  | 0, _, _, _ => False
  | n + 1, x1, x2, S => ((10 ≤ x2 → Q 0 x2 S) ∧ (¬ 10 ≤ x2 → (vp_in ((10 * x1) + x2) 50 ∧ (((S.1 111 (nt ((10 * x1) + x2))) ≤ 0 → Q 0 x2 S) ∧ (¬ (S.1 111 (nt ((10 * x1) + x2))) ≤ 0 → w_L_people_2  Q n x1 (x2 + 1) S)))))
theorem k_L_people_2 (hT : xT X = tb1) (hl : l.stackTraces = false) (C : Cn X k0 p l R s m meth c cL_people RL 3 1 0) (hr : meth.sig.returnType = (some .int)) (hnm : meth.name = yL_people.name) (htab : (∀ x ∈ c.exceptionTable.toList, False))  : ∀ n {x1 : Int32} {x2 : Int32} {S : Sg}, w_L_people_2  Qa n x1 x2 S → V X p l e R s m args below meth c 3 (QM X below args s S0 ad0 rvI Qa) S0 ad0 S 2 [(0, Value.ref (enc 13 11)), (1, Value.int x1), (2, Value.int x2)] [] := by
  intro n
  induction n with
  | zero => intro x1 x2 S h; exact h.elim
  | succ n ih =>
    intro x1 x2 S h
    refine V_iload_n (pc := 2) C dL_people_2 rfl 2 rfl ?_
    refine V_bipush (pc := 3) C (v := 10) dL_people_3 rfl ?_
    refine V_icmp_ge (pc := 5) (tgt := 25) C dL_people_5 (by decide) h (fun h => ?_) (fun h => ?_)
    · refine V_iload_n (pc := 25) C dL_people_25 rfl 2 rfl ?_
      exact V_iret (pc := 26) C hr rfl h dL_people_26
    · refine V_aload_n (pc := 8) C dL_people_8 rfl 0 rfl ?_
      refine V_bipush (pc := 9) C (v := 10) dL_people_9 rfl ?_
      refine V_iload_n (pc := 11) C dL_people_11 rfl 1 rfl ?_
      refine V_imul (pc := 12) C dL_people_12 ?_
      refine V_iload_n (pc := 13) C dL_people_13 rfl 2 rfl ?_
      refine V_iadd (pc := 14) C dL_people_14 ?_
      refine V_mld (pc := 15) C hT tb1_arr (n := 50) (c9 := 111) rfl rfl rfl h dL_people_15 (fun h => ?_)
      refine V_if_le (pc := 16) (tgt := 25) C dL_people_16 (by decide) h (fun h => ?_) (fun h => ?_)
      · refine V_iload_n (pc := 25) C dL_people_25 rfl 2 rfl ?_
        exact V_iret (pc := 26) C hr rfl h dL_people_26
      · refine V_iinc (pc := 19) C (a := 2) (v := x2 + 1) dL_people_19 rfl rfl (by decide) rfl ?_
        refine V_goto (pc := 22) (tgt := 2) C dL_people_22 (by decide) ?_
        refine V_sub [1, 2, 0] rfl ?_
        exact ih h
def w_L_people (a1 : Int32) (S : Sg) (Q : Nat → Int32 → Sg → Prop) : Prop := ∃ n9, w_L_people_2  Q n9 a1 0 S
theorem ct_L_people (hT : xT X = tb1) (hl : l.stackTraces = false) {a1 : Int32} {S : Sg} (h : w_L_people a1 S Qa) : CT X k0 l yL_people cL_people 3 (some .int) 1 0 [Value.ref (enc 13 11), Value.int a1] rvI S Qa :=
  CT_ofV (own := RL) (by decide +kernel) (le8 rfl) rfl hl fun p e R s m args below meth c ad0 C hr hnm htab => by
    refine V_iconst (pc := 0) C (v := 0) dL_people_0 rfl ?_
    refine V_istore_n (pc := 1) C dL_people_1 rfl (by decide) rfl ?_
    refine V_sub [1, 2, 0] rfl ?_
    obtain ⟨n9, h⟩ := h
    exact k_L_people_2 hT hl C hr hnm htab  n9 h
theorem pl_L_frees : (parseMethodDescriptor yL_frees.desc).map (fun d => d.parameters.length) = some 9 := by decide +kernel
def w_L_frees_72 (k31 : Int32 → Int32 → Int32 → Int32 → Sg → Prop) (Q : Nat → Int32 → Sg → Prop) (x7 : Int32) (x8 : Int32) (x9 : Int32) (x10 : Int32) (y0 : Int32) (y1 : Int32) (S : Sg) : Prop := (vp_in y1 50 ∧ (∀ S1, S1 = su S 111 (nt y1) y0 → k31 x7 x8 x9 (x10 + 1) S1))
theorem k_L_frees_72 (hT : xT X = tb1) (hl : l.stackTraces = false) (C : Cn X k0 p l R s m meth c cL_frees RL 11 3 52) (hr : meth.sig.returnType = (some .int)) (hnm : meth.name = yL_frees.name) (htab : (∀ x ∈ c.exceptionTable.toList, False)) {k31 : Int32 → Int32 → Int32 → Int32 → Sg → Prop} (hk31 : ∀ {x7 : Int32} {x8 : Int32} {x9 : Int32} {x10 : Int32} {S : Sg}, k31 x7 x8 x9 x10 S → V X p l e R s m args below meth c 11 (QM X below args s S0 ad0 rvI Qa) S0 ad0 S 31 [(0, Value.ref (enc 13 4)), (1, Value.ref (enc 13 6)), (2, Value.ref (enc 13 7)), (3, Value.ref (enc 13 8)), (4, Value.ref (enc 13 9)), (5, Value.ref (enc 13 11)), (6, Value.ref (enc 13 12)), (7, Value.int x7), (8, Value.int x8), (9, Value.int x9), (10, Value.int x10)] []) {x7 : Int32} {x8 : Int32} {x9 : Int32} {x10 : Int32} {y0 : Int32} {y1 : Int32} {S : Sg} (h : w_L_frees_72 k31 Qa x7 x8 x9 x10 y0 y1 S) : V X p l e R s m args below meth c 11 (QM X below args s S0 ad0 rvI Qa) S0 ad0 S 72 [(0, Value.ref (enc 13 4)), (1, Value.ref (enc 13 6)), (2, Value.ref (enc 13 7)), (3, Value.ref (enc 13 8)), (4, Value.ref (enc 13 9)), (5, Value.ref (enc 13 11)), (6, Value.ref (enc 13 12)), (7, Value.int x7), (8, Value.int x8), (9, Value.int x9), (10, Value.int x10)] [Value.int y0, Value.int y1, Value.ref (enc 13 11)] := by
  refine V_mst (pc := 72) C hT tb1_arr (n := 50) (c9 := 111) (by decide) rfl rfl rfl h dL_frees_72 (fun h => V_nx fun S1 e9 => ?_)
  replace h := h S1 e9; clear e9
  refine V_iinc (pc := 73) C (a := 10) (v := x10 + 1) dL_frees_73 rfl rfl (by decide) rfl ?_
  refine V_goto (pc := 76) (tgt := 31) C dL_frees_76 (by decide) ?_
  refine V_sub [1, 2, 3, 4, 5, 6, 7, 8, 9, 10, 0] rfl ?_
  exact hk31 h
def w_L_frees_31  (Q : Nat → Int32 → Sg → Prop) : Nat → Int32 → Int32 → Int32 → Int32 → Sg → Prop
  | 0, _, _, _, _, _ => False
  | n + 1, x7, x8, x9, x10, S => ((10 ≤ x10 → (w_L_sells x7 x8 ((x9 - 1) - (x9 - 1) / 128 * 128) S (fun k4 v3 S2 => (k4 = 0 → Q 0 v3 S2) ∧ (¬ k4 = 0 → Q k4 0 S2)))) ∧ (¬ 10 ≤ x10 → ((x10 = 9 → w_L_frees_72 (fun x7 x8 x9 x10 S => w_L_frees_31  Q n x7 x8 x9 x10 S) Q x7 x8 x9 x10 0 ((10 * x7) + x10) S) ∧ (¬ x10 = 9 → (vp_in (((10 * x7) + x10) + 1) 50 ∧ w_L_frees_72 (fun x7 x8 x9 x10 S => w_L_frees_31  Q n x7 x8 x9 x10 S) Q x7 x8 x9 x10 (S.1 111 (nt (((10 * x7) + x10) + 1))) ((10 * x7) + x10) S)))))
theorem k_L_frees_31 (hT : xT X = tb1) (hl : l.stackTraces = false) (C : Cn X k0 p l R s m meth c cL_frees RL 11 3 52) (hr : meth.sig.returnType = (some .int)) (hnm : meth.name = yL_frees.name) (htab : (∀ x ∈ c.exceptionTable.toList, False))  : ∀ n {x7 : Int32} {x8 : Int32} {x9 : Int32} {x10 : Int32} {S : Sg}, w_L_frees_31  Qa n x7 x8 x9 x10 S → V X p l e R s m args below meth c 11 (QM X below args s S0 ad0 rvI Qa) S0 ad0 S 31 [(0, Value.ref (enc 13 4)), (1, Value.ref (enc 13 6)), (2, Value.ref (enc 13 7)), (3, Value.ref (enc 13 8)), (4, Value.ref (enc 13 9)), (5, Value.ref (enc 13 11)), (6, Value.ref (enc 13 12)), (7, Value.int x7), (8, Value.int x8), (9, Value.int x9), (10, Value.int x10)] [] := by
  intro n
  induction n with
  | zero => intro x7 x8 x9 x10 S h; exact h.elim
  | succ n ih =>
    intro x7 x8 x9 x10 S h
    refine V_iload (pc := 31) C dL_frees_31 10 rfl ?_
    refine V_bipush (pc := 33) C (v := 10) dL_frees_33 rfl ?_
    refine V_icmp_ge (pc := 35) (tgt := 79) C dL_frees_35 (by decide) h (fun h => ?_) (fun h => ?_)
    · refine V_aload_n (pc := 79) C dL_frees_79 rfl 0 rfl ?_
      refine V_aload_n (pc := 80) C dL_frees_80 rfl 1 rfl ?_
      refine V_aload_n (pc := 81) C dL_frees_81 rfl 2 rfl ?_
      refine V_aload_n (pc := 82) C dL_frees_82 rfl 3 rfl ?_
      refine V_aload (pc := 83) C dL_frees_83 4 rfl ?_
      refine V_aload (pc := 85) C dL_frees_85 6 rfl ?_
      refine V_iload (pc := 87) C dL_frees_87 7 rfl ?_
      refine V_iload (pc := 89) C dL_frees_89 8 rfl ?_
      refine V_iload (pc := 91) C dL_frees_91 9 rfl ?_
      refine V_iconst (pc := 93) C (v := 1) dL_frees_93 rfl ?_
      refine V_isub (pc := 94) C dL_frees_94 ?_
      refine V_sipush (pc := 95) C (v := 128) dL_frees_95 rfl ?_
      refine V_irem (pc := 98) C dL_frees_98 (by decide) ?_
      refine V_callS (pc := 99) C (ct_L_sells hT hl h) g896 g897 g898 g32 ⟨by decide, by decide, pl_L_sells⟩ ⟨by decide, by decide⟩ (rest := []) rfl (le8 rfl) dL_frees_99 (fun v3 S2 h => ?_) (fun k9 S9 hk h => VX_out C htab hk (h.2 (by omega)))
      replace h := h.1 rfl
      refine V_st (st' := [Value.int v3]) rfl ?_
      exact V_iret (pc := 102) C hr rfl h dL_frees_102
    · refine V_aload (pc := 38) C dL_frees_38 5 rfl ?_
      refine V_bipush (pc := 40) C (v := 10) dL_frees_40 rfl ?_
      refine V_iload (pc := 42) C dL_frees_42 7 rfl ?_
      refine V_imul (pc := 44) C dL_frees_44 ?_
      refine V_iload (pc := 45) C dL_frees_45 10 rfl ?_
      refine V_iadd (pc := 47) C dL_frees_47 ?_
      refine V_iload (pc := 48) C dL_frees_48 10 rfl ?_
      refine V_bipush (pc := 50) C (v := 9) dL_frees_50 rfl ?_
      refine V_icmp_ne (pc := 52) (tgt := 59) C dL_frees_52 (by decide) h (fun h => ?_) (fun h => ?_)
      · refine V_aload (pc := 59) C dL_frees_59 5 rfl ?_
        refine V_bipush (pc := 61) C (v := 10) dL_frees_61 rfl ?_
        refine V_iload (pc := 63) C dL_frees_63 7 rfl ?_
        refine V_imul (pc := 65) C dL_frees_65 ?_
        refine V_iload (pc := 66) C dL_frees_66 10 rfl ?_
        refine V_iadd (pc := 68) C dL_frees_68 ?_
        refine V_iconst (pc := 69) C (v := 1) dL_frees_69 rfl ?_
        refine V_iadd (pc := 70) C dL_frees_70 ?_
        refine V_mld (pc := 71) C hT tb1_arr (n := 50) (c9 := 111) rfl rfl rfl h dL_frees_71 (fun h => ?_)
        refine V_sub [0, 1, 2, 3, 4, 5, 6, 7, 8, 9, 10] rfl ?_
        exact k_L_frees_72 hT hl C hr hnm htab (fun h => ih h) h
      · refine V_iconst (pc := 55) C (v := 0) dL_frees_55 rfl ?_
        refine V_goto (pc := 56) (tgt := 72) C dL_frees_56 (by decide) ?_
        refine V_sub [0, 1, 2, 3, 4, 5, 6, 7, 8, 9, 10] rfl ?_
        exact k_L_frees_72 hT hl C hr hnm htab (fun h => ih h) h
def w_L_frees (a7 : Int32) (a8 : Int32) (S : Sg) (Q : Nat → Int32 → Sg → Prop) : Prop := (vp_in ((12 * a7) + a8) 60 ∧ (∀ S5, S5 = su S 107 (nt ((12 * a7) + a8)) 0 → (vp_in (10 * a7) 50 ∧ (∀ v6, v6 = S5.1 111 (nt (10 * a7)) → ((v6 = 0 → Q 0 (-1) S5) ∧ (¬ v6 = 0 → ∃ n9, w_L_frees_31  Q n9 a7 a8 v6 0 S5))))))
theorem ct_L_frees (hT : xT X = tb1) (hl : l.stackTraces = false) {a7 : Int32} {a8 : Int32} {S : Sg} (h : w_L_frees a7 a8 S Qa) : CT X k0 l yL_frees cL_frees 11 (some .int) 3 52 [Value.ref (enc 13 4), Value.ref (enc 13 6), Value.ref (enc 13 7), Value.ref (enc 13 8), Value.ref (enc 13 9), Value.ref (enc 13 11), Value.ref (enc 13 12), Value.int a7, Value.int a8] rvI S Qa :=
  CT_ofV (own := RL) (by decide +kernel) (le8 rfl) rfl hl fun p e R s m args below meth c ad0 C hr hnm htab => by
    refine V_aload_n (pc := 0) C dL_frees_0 rfl 2 rfl ?_
    refine V_bipush (pc := 1) C (v := 12) dL_frees_1 rfl ?_
    refine V_iload (pc := 3) C dL_frees_3 7 rfl ?_
    refine V_imul (pc := 5) C dL_frees_5 ?_
    refine V_iload (pc := 6) C dL_frees_6 8 rfl ?_
    refine V_iadd (pc := 8) C dL_frees_8 ?_
    refine V_iconst (pc := 9) C (v := 0) dL_frees_9 rfl ?_
    refine V_mst (pc := 10) C hT tb1_arr (n := 60) (c9 := 107) (by decide) rfl rfl rfl h dL_frees_10 (fun h => V_nx fun S5 e9 => ?_)
    replace h := h S5 e9; clear e9
    refine V_aload (pc := 11) C dL_frees_11 5 rfl ?_
    refine V_bipush (pc := 13) C (v := 10) dL_frees_13 rfl ?_
    refine V_iload (pc := 15) C dL_frees_15 7 rfl ?_
    refine V_imul (pc := 17) C dL_frees_17 ?_
    refine V_mld (pc := 18) C hT tb1_arr (n := 50) (c9 := 111) rfl rfl rfl h dL_frees_18 (fun h => ?_)
    refine V_nI fun v6 e9 => ?_
    replace h := h v6 e9; clear e9
    refine V_istore (pc := 19) C dL_frees_19 (by decide) rfl ?_
    refine V_iload (pc := 21) C dL_frees_21 0 rfl ?_
    refine V_if_ne (pc := 23) (tgt := 28) C dL_frees_23 (by decide) h (fun h => ?_) (fun h => ?_)
    · refine V_iconst (pc := 28) C (v := 0) dL_frees_28 rfl ?_
      refine V_istore (pc := 29) C dL_frees_29 (by decide) rfl ?_
      refine V_sub [2, 3, 4, 5, 6, 7, 8, 9, 10, 1, 0] rfl ?_
      obtain ⟨n9, h⟩ := h
      exact k_L_frees_31 hT hl C hr hnm htab  n9 h
    · refine V_iconst (pc := 26) C (v := (-1)) dL_frees_26 rfl ?_
      exact V_iret (pc := 27) C hr rfl h dL_frees_27
theorem pl_L_minute : (parseMethodDescriptor yL_minute.desc).map (fun d => d.parameters.length) = some 9 := by decide +kernel
def w_L_minute_271 (k203 : Int32 → Sg → Prop) (Q : Nat → Int32 → Sg → Prop) (x9 : Int32) (S : Sg) : Prop := k203 (x9 + 1) S
theorem k_L_minute_271 (hT : xT X = tb1) (hl : l.stackTraces = false) (C : Cn X k0 p l R s m meth c cL_minute RL 11 4 82) (hr : meth.sig.returnType = none) (hnm : meth.name = yL_minute.name) (htab : (∀ x ∈ c.exceptionTable.toList, False)) {k203 : Int32 → Sg → Prop} (hk203 : ∀ {x9 : Int32} {S : Sg}, k203 x9 S → V X p l e R s m args below meth c 11 (QM X below args s S0 ad0 rvV Qa) S0 ad0 S 203 [(2, Value.ref (enc 13 6)), (7, Value.ref (enc 13 11)), (8, Value.ref (enc 13 12)), (9, Value.int x9)] []) {x9 : Int32} {S : Sg} (h : w_L_minute_271 k203 Qa x9 S) : V X p l e R s m args below meth c 11 (QM X below args s S0 ad0 rvV Qa) S0 ad0 S 271 [(2, Value.ref (enc 13 6)), (7, Value.ref (enc 13 11)), (8, Value.ref (enc 13 12)), (9, Value.int x9)] [] := by
  refine V_iinc (pc := 271) C (a := 3) (v := x9 + 1) dL_minute_271 rfl rfl (by decide) rfl ?_
  refine V_goto (pc := 274) (tgt := 203) C dL_minute_274 (by decide) ?_
  refine V_sub [1, 2, 3, 0] rfl ?_
  exact hk203 h
def w_L_minute_246 (k203 : Int32 → Sg → Prop) (Q : Nat → Int32 → Sg → Prop) : Nat → Int32 → Int32 → Sg → Prop
  | 0, _, _, _ => False
  | n + 1, x9, x10, S => ((10 ≤ x10 → w_L_minute_271 k203 Q x9 S) ∧ (¬ 10 ≤ x10 → (vp_in ((10 * x9) + x10) 50 ∧ (∀ S1, S1 = su S 111 (nt ((10 * x9) + x10)) 0 → w_L_minute_246 k203 Q n x9 (x10 + 1) S1))))
theorem k_L_minute_246 (hT : xT X = tb1) (hl : l.stackTraces = false) (C : Cn X k0 p l R s m meth c cL_minute RL 11 4 82) (hr : meth.sig.returnType = none) (hnm : meth.name = yL_minute.name) (htab : (∀ x ∈ c.exceptionTable.toList, False)) {k203 : Int32 → Sg → Prop} (hk203 : ∀ {x9 : Int32} {S : Sg}, k203 x9 S → V X p l e R s m args below meth c 11 (QM X below args s S0 ad0 rvV Qa) S0 ad0 S 203 [(2, Value.ref (enc 13 6)), (7, Value.ref (enc 13 11)), (8, Value.ref (enc 13 12)), (9, Value.int x9)] []) : ∀ n {x9 : Int32} {x10 : Int32} {S : Sg}, w_L_minute_246 k203 Qa n x9 x10 S → V X p l e R s m args below meth c 11 (QM X below args s S0 ad0 rvV Qa) S0 ad0 S 246 [(2, Value.ref (enc 13 6)), (7, Value.ref (enc 13 11)), (8, Value.ref (enc 13 12)), (9, Value.int x9), (10, Value.int x10)] [] := by
  intro n
  induction n with
  | zero => intro x9 x10 S h; exact h.elim
  | succ n ih =>
    intro x9 x10 S h
    refine V_iload (pc := 246) C dL_minute_246 4 rfl ?_
    refine V_bipush (pc := 248) C (v := 10) dL_minute_248 rfl ?_
    refine V_icmp_ge (pc := 250) (tgt := 271) C dL_minute_250 (by decide) h (fun h => ?_) (fun h => ?_)
    · refine V_sub [0, 1, 2, 3] rfl ?_
      exact k_L_minute_271 hT hl C hr hnm htab (fun h => hk203 h) h
    · refine V_aload (pc := 253) C dL_minute_253 1 rfl ?_
      refine V_bipush (pc := 255) C (v := 10) dL_minute_255 rfl ?_
      refine V_iload (pc := 257) C dL_minute_257 3 rfl ?_
      refine V_imul (pc := 259) C dL_minute_259 ?_
      refine V_iload (pc := 260) C dL_minute_260 4 rfl ?_
      refine V_iadd (pc := 262) C dL_minute_262 ?_
      refine V_iconst (pc := 263) C (v := 0) dL_minute_263 rfl ?_
      refine V_mst (pc := 264) C hT tb1_arr (n := 50) (c9 := 111) (by decide) rfl rfl rfl h dL_minute_264 (fun h => V_nx fun S1 e9 => ?_)
      replace h := h S1 e9; clear e9
      refine V_iinc (pc := 265) C (a := 4) (v := x10 + 1) dL_minute_265 rfl rfl (by decide) rfl ?_
      refine V_goto (pc := 268) (tgt := 246) C dL_minute_268 (by decide) ?_
      refine V_sub [1, 2, 3, 4, 0] rfl ?_
      exact ih h
def w_L_minute_203  (Q : Nat → Int32 → Sg → Prop) : Nat → Int32 → Sg → Prop
  | 0, _, _ => False
  | n + 1, x9, S => (vp_in 5 8 ∧ (((S.1 112 (nt 5)) ≤ x9 → Q 0 0 S) ∧ (¬ (S.1 112 (nt 5)) ≤ x9 → (w_L_state x9 S (fun k4 v3 S2 => (k4 = 0 → ((v3 = 0 → (vp_in (5 + x9) 11 ∧ (vp_in 0 8 ∧ (((S2.1 106 (nt (5 + x9))) = (S2.1 112 (nt 0)) → (vp_in x9 11 ∧ (vp_in x9 11 ∧ (∀ S5, S5 = su S2 106 (nt x9) ((S2.1 106 (nt x9)) + 16) → ∃ n9, w_L_minute_246 (fun x9 S => w_L_minute_203  Q n x9 S) Q n9 x9 0 S5)))) ∧ (¬ (S2.1 106 (nt (5 + x9))) = (S2.1 112 (nt 0)) → w_L_minute_271 (fun x9 S => w_L_minute_203  Q n x9 S) Q x9 S2))))) ∧ (¬ v3 = 0 → w_L_minute_271 (fun x9 S => w_L_minute_203  Q n x9 S) Q x9 S2))) ∧ (¬ k4 = 0 → Q k4 0 S2))))))
theorem k_L_minute_203 (hT : xT X = tb1) (hl : l.stackTraces = false) (C : Cn X k0 p l R s m meth c cL_minute RL 11 4 82) (hr : meth.sig.returnType = none) (hnm : meth.name = yL_minute.name) (htab : (∀ x ∈ c.exceptionTable.toList, False))  : ∀ n {x9 : Int32} {S : Sg}, w_L_minute_203  Qa n x9 S → V X p l e R s m args below meth c 11 (QM X below args s S0 ad0 rvV Qa) S0 ad0 S 203 [(2, Value.ref (enc 13 6)), (7, Value.ref (enc 13 11)), (8, Value.ref (enc 13 12)), (9, Value.int x9)] [] := by
  intro n
  induction n with
  | zero => intro x9 S h; exact h.elim
  | succ n ih =>
    intro x9 S h
    refine V_iload (pc := 203) C dL_minute_203 3 rfl ?_
    refine V_aload (pc := 205) C dL_minute_205 2 rfl ?_
    refine V_iconst (pc := 207) C (v := 5) dL_minute_207 rfl ?_
    refine V_mld (pc := 208) C hT tb1_arr (n := 8) (c9 := 112) rfl rfl rfl h dL_minute_208 (fun h => ?_)
    refine V_icmp_ge (pc := 209) (tgt := 277) C dL_minute_209 (by decide) h (fun h => ?_) (fun h => ?_)
    · exact V_vret (pc := 277) C hr rfl h dL_minute_277
    · refine V_aload_n (pc := 212) C dL_minute_212 rfl 0 rfl ?_
      refine V_iload (pc := 213) C dL_minute_213 3 rfl ?_
      refine V_callS (pc := 215) C (ct_L_state hT hl h) g794 g795 g796 g32 ⟨by decide, by decide, pl_L_state⟩ ⟨by decide, by decide⟩ (rest := []) rfl (le8 rfl) dL_minute_215 (fun v3 S2 h => ?_) (fun k9 S9 hk h => VX_out C htab hk (h.2 (by omega)))
      replace h := h.1 rfl
      refine V_st (st' := [Value.int v3]) rfl ?_
      refine V_if_ne (pc := 218) (tgt := 271) C dL_minute_218 (by decide) h (fun h => ?_) (fun h => ?_)
      · refine V_sub [0, 1, 2, 3] rfl ?_
        exact k_L_minute_271 hT hl C hr hnm htab (fun h => ih h) h
      · refine V_aload_n (pc := 221) C dL_minute_221 rfl 0 rfl ?_
        refine V_iconst (pc := 222) C (v := 5) dL_minute_222 rfl ?_
        refine V_iload (pc := 223) C dL_minute_223 3 rfl ?_
        refine V_iadd (pc := 225) C dL_minute_225 ?_
        refine V_mld (pc := 226) C hT tb1_arr (n := 11) (c9 := 106) rfl rfl rfl h dL_minute_226 (fun h => ?_)
        refine V_aload (pc := 227) C dL_minute_227 2 rfl ?_
        refine V_iconst (pc := 229) C (v := 0) dL_minute_229 rfl ?_
        refine V_mld (pc := 230) C hT tb1_arr (n := 8) (c9 := 112) rfl rfl rfl h dL_minute_230 (fun h => ?_)
        refine V_icmp_ne (pc := 231) (tgt := 271) C dL_minute_231 (by decide) h (fun h => ?_) (fun h => ?_)
        · refine V_sub [0, 1, 2, 3] rfl ?_
          exact k_L_minute_271 hT hl C hr hnm htab (fun h => ih h) h
        · refine V_aload_n (pc := 234) C dL_minute_234 rfl 0 rfl ?_
          refine V_iload (pc := 235) C dL_minute_235 3 rfl ?_
          refine V_dup2 (pc := 237) C dL_minute_237 rfl rfl ?_
          refine V_mld (pc := 238) C hT tb1_arr (n := 11) (c9 := 106) rfl rfl rfl h dL_minute_238 (fun h => ?_)
          refine V_bipush (pc := 239) C (v := 16) dL_minute_239 rfl ?_
          refine V_iadd (pc := 241) C dL_minute_241 ?_
          refine V_mst (pc := 242) C hT tb1_arr (n := 11) (c9 := 106) (by decide) rfl rfl rfl h dL_minute_242 (fun h => V_nx fun S5 e9 => ?_)
          replace h := h S5 e9; clear e9
          refine V_iconst (pc := 243) C (v := 0) dL_minute_243 rfl ?_
          refine V_istore (pc := 244) C dL_minute_244 (by decide) rfl ?_
          refine V_sub [1, 2, 3, 4, 0] rfl ?_
          obtain ⟨n9, h⟩ := h
          exact k_L_minute_246 hT hl C hr hnm htab (fun h => ih h) n9 h
def w_L_minute_192 (k101 : Int32 → Sg → Prop) (Q : Nat → Int32 → Sg → Prop) (x9 : Int32) (y0 : Int32) (y1 : Int32) (y2 : Int32) (S : Sg) : Prop := (vp_in y2 7 ∧ (∀ S6, S6 = su S 103 (nt y2) (y1 + y0) → k101 (x9 + 1) S6))
theorem k_L_minute_192 (hT : xT X = tb1) (hl : l.stackTraces = false) (C : Cn X k0 p l R s m meth c cL_minute RL 11 4 82) (hr : meth.sig.returnType = none) (hnm : meth.name = yL_minute.name) (htab : (∀ x ∈ c.exceptionTable.toList, False)) {k101 : Int32 → Sg → Prop} (hk101 : ∀ {x9 : Int32} {S : Sg}, k101 x9 S → V X p l e R s m args below meth c 11 (QM X below args s S0 ad0 rvV Qa) S0 ad0 S 101 [(0, Value.ref (enc 13 3)), (1, Value.ref (enc 13 4)), (2, Value.ref (enc 13 6)), (7, Value.ref (enc 13 11)), (8, Value.ref (enc 13 12)), (9, Value.int x9)] []) {x9 : Int32} {y0 : Int32} {y1 : Int32} {y2 : Int32} {S : Sg} (h : w_L_minute_192 k101 Qa x9 y0 y1 y2 S) : V X p l e R s m args below meth c 11 (QM X below args s S0 ad0 rvV Qa) S0 ad0 S 192 [(0, Value.ref (enc 13 3)), (1, Value.ref (enc 13 4)), (2, Value.ref (enc 13 6)), (7, Value.ref (enc 13 11)), (8, Value.ref (enc 13 12)), (9, Value.int x9)] [Value.int y0, Value.int y1, Value.int y2, Value.ref (enc 13 3)] := by
  refine V_iadd (pc := 192) C dL_minute_192 ?_
  refine V_mst (pc := 193) C hT tb1_arr (n := 7) (c9 := 103) (by decide) rfl rfl rfl h dL_minute_193 (fun h => V_nx fun S6 e9 => ?_)
  replace h := h S6 e9; clear e9
  refine V_iinc (pc := 194) C (a := 5) (v := x9 + 1) dL_minute_194 rfl rfl (by decide) rfl ?_
  refine V_goto (pc := 197) (tgt := 101) C dL_minute_197 (by decide) ?_
  refine V_sub [1, 2, 3, 4, 5, 0] rfl ?_
  exact hk101 h
def w_L_minute_157 (k101 : Int32 → Sg → Prop) (Q : Nat → Int32 → Sg → Prop) (x9 : Int32) (x10 : Int32) (y0 : Int32) (y1 : Int32) (y2 : Int32) (S : Sg) : Prop := (vp_in y2 11 ∧ (∀ S7, S7 = su S 106 (nt y2) (y1 + y0) → (vp_in x9 11 ∧ (vp_in (2 + (((S7.1 106 (nt x9)) / 4) - ((S7.1 106 (nt x9)) / 4) / 4 * 4)) 7 ∧ ((x10 = 0 → w_L_minute_192 k101 Q x9 0 (S7.1 103 (nt (2 + (((S7.1 106 (nt x9)) / 4) - ((S7.1 106 (nt x9)) / 4) / 4 * 4)))) (2 + (((S7.1 106 (nt x9)) / 4) - ((S7.1 106 (nt x9)) / 4) / 4 * 4)) S7) ∧ (¬ x10 = 0 → (vp_in x9 11 ∧ (vp_in (8 * ((S7.1 106 (nt x9)) - (S7.1 106 (nt x9)) / 4 * 4)) 24 ∧ w_L_minute_192 k101 Q x9 (S7.1 104 (nt (8 * ((S7.1 106 (nt x9)) - (S7.1 106 (nt x9)) / 4 * 4)))) (S7.1 103 (nt (2 + (((S7.1 106 (nt x9)) / 4) - ((S7.1 106 (nt x9)) / 4) / 4 * 4)))) (2 + (((S7.1 106 (nt x9)) / 4) - ((S7.1 106 (nt x9)) / 4) / 4 * 4)) S7))))))))
theorem k_L_minute_157 (hT : xT X = tb1) (hl : l.stackTraces = false) (C : Cn X k0 p l R s m meth c cL_minute RL 11 4 82) (hr : meth.sig.returnType = none) (hnm : meth.name = yL_minute.name) (htab : (∀ x ∈ c.exceptionTable.toList, False)) {k101 : Int32 → Sg → Prop} (hk101 : ∀ {x9 : Int32} {S : Sg}, k101 x9 S → V X p l e R s m args below meth c 11 (QM X below args s S0 ad0 rvV Qa) S0 ad0 S 101 [(0, Value.ref (enc 13 3)), (1, Value.ref (enc 13 4)), (2, Value.ref (enc 13 6)), (7, Value.ref (enc 13 11)), (8, Value.ref (enc 13 12)), (9, Value.int x9)] []) {x9 : Int32} {x10 : Int32} {y0 : Int32} {y1 : Int32} {y2 : Int32} {S : Sg} (h : w_L_minute_157 k101 Qa x9 x10 y0 y1 y2 S) : V X p l e R s m args below meth c 11 (QM X below args s S0 ad0 rvV Qa) S0 ad0 S 157 [(0, Value.ref (enc 13 3)), (1, Value.ref (enc 13 4)), (2, Value.ref (enc 13 6)), (7, Value.ref (enc 13 11)), (8, Value.ref (enc 13 12)), (9, Value.int x9), (10, Value.int x10)] [Value.int y0, Value.int y1, Value.int y2, Value.ref (enc 13 6)] := by
  refine V_iadd (pc := 157) C dL_minute_157 ?_
  refine V_mst (pc := 158) C hT tb1_arr (n := 11) (c9 := 106) (by decide) rfl rfl rfl h dL_minute_158 (fun h => V_nx fun S7 e9 => ?_)
  replace h := h S7 e9; clear e9
  refine V_aload_n (pc := 159) C dL_minute_159 rfl 0 rfl ?_
  refine V_iconst (pc := 160) C (v := 2) dL_minute_160 rfl ?_
  refine V_aload_n (pc := 161) C dL_minute_161 rfl 2 rfl ?_
  refine V_iload (pc := 162) C dL_minute_162 5 rfl ?_
  refine V_mld (pc := 164) C hT tb1_arr (n := 11) (c9 := 106) rfl rfl rfl h dL_minute_164 (fun h => ?_)
  refine V_iconst (pc := 165) C (v := 4) dL_minute_165 rfl ?_
  refine V_idiv (pc := 166) C dL_minute_166 (by decide) ?_
  refine V_iconst (pc := 167) C (v := 4) dL_minute_167 rfl ?_
  refine V_irem (pc := 168) C dL_minute_168 (by decide) ?_
  refine V_iadd (pc := 169) C dL_minute_169 ?_
  refine V_dup2 (pc := 170) C dL_minute_170 rfl rfl ?_
  refine V_mld (pc := 171) C hT tb1_arr (n := 7) (c9 := 103) rfl rfl rfl h dL_minute_171 (fun h => ?_)
  refine V_iload (pc := 172) C dL_minute_172 6 rfl ?_
  refine V_if_eq (pc := 174) (tgt := 191) C dL_minute_174 (by decide) h (fun h => ?_) (fun h => ?_)
  · refine V_iconst (pc := 191) C (v := 0) dL_minute_191 rfl ?_
    refine V_sub [0, 1, 2, 3, 4, 5] rfl ?_
    exact k_L_minute_192 hT hl C hr hnm htab (fun h => hk101 h) h
  · refine V_aload_n (pc := 177) C dL_minute_177 rfl 1 rfl ?_
    refine V_bipush (pc := 178) C (v := 8) dL_minute_178 rfl ?_
    refine V_aload_n (pc := 180) C dL_minute_180 rfl 2 rfl ?_
    refine V_iload (pc := 181) C dL_minute_181 5 rfl ?_
    refine V_mld (pc := 183) C hT tb1_arr (n := 11) (c9 := 106) rfl rfl rfl h dL_minute_183 (fun h => ?_)
    refine V_iconst (pc := 184) C (v := 4) dL_minute_184 rfl ?_
    refine V_irem (pc := 185) C dL_minute_185 (by decide) ?_
    refine V_imul (pc := 186) C dL_minute_186 ?_
    refine V_mld (pc := 187) C hT tb1_arr (n := 24) (c9 := 104) rfl rfl rfl h dL_minute_187 (fun h => ?_)
    refine V_goto (pc := 188) (tgt := 192) C dL_minute_188 (by decide) ?_
    refine V_sub [0, 1, 2, 3, 4, 5] rfl ?_
    exact k_L_minute_192 hT hl C hr hnm htab (fun h => hk101 h) h
def w_L_minute_139 (k101 : Int32 → Sg → Prop) (Q : Nat → Int32 → Sg → Prop) (x9 : Int32) (y0 : Int32) (S : Sg) : Prop := (vp_in x9 11 ∧ ((y0 = 0 → w_L_minute_157 k101 Q x9 y0 0 (S.1 106 (nt x9)) x9 S) ∧ (¬ y0 = 0 → w_L_minute_157 k101 Q x9 y0 16 (S.1 106 (nt x9)) x9 S)))
theorem k_L_minute_139 (hT : xT X = tb1) (hl : l.stackTraces = false) (C : Cn X k0 p l R s m meth c cL_minute RL 11 4 82) (hr : meth.sig.returnType = none) (hnm : meth.name = yL_minute.name) (htab : (∀ x ∈ c.exceptionTable.toList, False)) {k101 : Int32 → Sg → Prop} (hk101 : ∀ {x9 : Int32} {S : Sg}, k101 x9 S → V X p l e R s m args below meth c 11 (QM X below args s S0 ad0 rvV Qa) S0 ad0 S 101 [(0, Value.ref (enc 13 3)), (1, Value.ref (enc 13 4)), (2, Value.ref (enc 13 6)), (7, Value.ref (enc 13 11)), (8, Value.ref (enc 13 12)), (9, Value.int x9)] []) {x9 : Int32} {y0 : Int32} {S : Sg} (h : w_L_minute_139 k101 Qa x9 y0 S) : V X p l e R s m args below meth c 11 (QM X below args s S0 ad0 rvV Qa) S0 ad0 S 139 [(0, Value.ref (enc 13 3)), (1, Value.ref (enc 13 4)), (2, Value.ref (enc 13 6)), (7, Value.ref (enc 13 11)), (8, Value.ref (enc 13 12)), (9, Value.int x9)] [Value.int y0] := by
  refine V_istore (pc := 139) C dL_minute_139 (by decide) rfl ?_
  refine V_aload_n (pc := 141) C dL_minute_141 rfl 3 rfl ?_
  refine V_iload (pc := 142) C dL_minute_142 6 rfl ?_
  refine V_dup2 (pc := 144) C dL_minute_144 rfl rfl ?_
  refine V_mld (pc := 145) C hT tb1_arr (n := 11) (c9 := 106) rfl rfl rfl h dL_minute_145 (fun h => ?_)
  refine V_iload (pc := 146) C dL_minute_146 0 rfl ?_
  refine V_if_eq (pc := 148) (tgt := 156) C dL_minute_148 (by decide) h (fun h => ?_) (fun h => ?_)
  · refine V_iconst (pc := 156) C (v := 0) dL_minute_156 rfl ?_
    refine V_sub [1, 2, 3, 4, 5, 6, 0] rfl ?_
    exact k_L_minute_157 hT hl C hr hnm htab (fun h => hk101 h) h
  · refine V_bipush (pc := 151) C (v := 16) dL_minute_151 rfl ?_
    refine V_goto (pc := 153) (tgt := 157) C dL_minute_153 (by decide) ?_
    refine V_sub [1, 2, 3, 4, 5, 6, 0] rfl ?_
    exact k_L_minute_157 hT hl C hr hnm htab (fun h => hk101 h) h
def w_L_minute_138 (k101 : Int32 → Sg → Prop) (Q : Nat → Int32 → Sg → Prop) (x9 : Int32) (S : Sg) : Prop := w_L_minute_139 k101 Q x9 0 S
theorem k_L_minute_138 (hT : xT X = tb1) (hl : l.stackTraces = false) (C : Cn X k0 p l R s m meth c cL_minute RL 11 4 82) (hr : meth.sig.returnType = none) (hnm : meth.name = yL_minute.name) (htab : (∀ x ∈ c.exceptionTable.toList, False)) {k101 : Int32 → Sg → Prop} (hk101 : ∀ {x9 : Int32} {S : Sg}, k101 x9 S → V X p l e R s m args below meth c 11 (QM X below args s S0 ad0 rvV Qa) S0 ad0 S 101 [(0, Value.ref (enc 13 3)), (1, Value.ref (enc 13 4)), (2, Value.ref (enc 13 6)), (7, Value.ref (enc 13 11)), (8, Value.ref (enc 13 12)), (9, Value.int x9)] []) {x9 : Int32} {S : Sg} (h : w_L_minute_138 k101 Qa x9 S) : V X p l e R s m args below meth c 11 (QM X below args s S0 ad0 rvV Qa) S0 ad0 S 138 [(0, Value.ref (enc 13 3)), (1, Value.ref (enc 13 4)), (2, Value.ref (enc 13 6)), (7, Value.ref (enc 13 11)), (8, Value.ref (enc 13 12)), (9, Value.int x9)] [] := by
  refine V_iconst (pc := 138) C (v := 0) dL_minute_138 rfl ?_
  refine V_sub [0, 1, 2, 3, 4, 5] rfl ?_
  exact k_L_minute_139 hT hl C hr hnm htab (fun h => hk101 h) h
def w_L_minute_101  (Q : Nat → Int32 → Sg → Prop) : Nat → Int32 → Sg → Prop
  | 0, _, _ => False
  | n + 1, x9, S => (vp_in 5 8 ∧ (((S.1 112 (nt 5)) ≤ x9 → ∃ n9, w_L_minute_203  Q n9 0 S) ∧ (¬ (S.1 112 (nt 5)) ≤ x9 → (w_L_state x9 S (fun k10 v9 S8 => (k10 = 0 → ((v9 = 1 → (w_L_end x9 S8 (fun k13 v12 S11 => (k13 = 0 → (vp_in 0 8 ∧ ((v12 = (S11.1 112 (nt 0)) → w_L_minute_139 (fun x9 S => w_L_minute_101  Q n x9 S) Q x9 1 S11) ∧ (¬ v12 = (S11.1 112 (nt 0)) → w_L_minute_138 (fun x9 S => w_L_minute_101  Q n x9 S) Q x9 S11)))) ∧ (¬ k13 = 0 → Q k13 0 S11)))) ∧ (¬ v9 = 1 → w_L_minute_138 (fun x9 S => w_L_minute_101  Q n x9 S) Q x9 S8))) ∧ (¬ k10 = 0 → Q k10 0 S8))))))
theorem k_L_minute_101 (hT : xT X = tb1) (hl : l.stackTraces = false) (C : Cn X k0 p l R s m meth c cL_minute RL 11 4 82) (hr : meth.sig.returnType = none) (hnm : meth.name = yL_minute.name) (htab : (∀ x ∈ c.exceptionTable.toList, False))  : ∀ n {x9 : Int32} {S : Sg}, w_L_minute_101  Qa n x9 S → V X p l e R s m args below meth c 11 (QM X below args s S0 ad0 rvV Qa) S0 ad0 S 101 [(0, Value.ref (enc 13 3)), (1, Value.ref (enc 13 4)), (2, Value.ref (enc 13 6)), (7, Value.ref (enc 13 11)), (8, Value.ref (enc 13 12)), (9, Value.int x9)] [] := by
  intro n
  induction n with
  | zero => intro x9 S h; exact h.elim
  | succ n ih =>
    intro x9 S h
    refine V_iload (pc := 101) C dL_minute_101 5 rfl ?_
    refine V_aload (pc := 103) C dL_minute_103 4 rfl ?_
    refine V_iconst (pc := 105) C (v := 5) dL_minute_105 rfl ?_
    refine V_mld (pc := 106) C hT tb1_arr (n := 8) (c9 := 112) rfl rfl rfl h dL_minute_106 (fun h => ?_)
    refine V_icmp_ge (pc := 107) (tgt := 200) C dL_minute_107 (by decide) h (fun h => ?_) (fun h => ?_)
    · refine V_iconst (pc := 200) C (v := 0) dL_minute_200 rfl ?_
      refine V_istore (pc := 201) C dL_minute_201 (by decide) rfl ?_
      refine V_sub [3, 4, 5, 0] rfl ?_
      obtain ⟨n9, h⟩ := h
      exact k_L_minute_203 hT hl C hr hnm htab  n9 h
    · refine V_aload_n (pc := 110) C dL_minute_110 rfl 2 rfl ?_
      refine V_iload (pc := 111) C dL_minute_111 5 rfl ?_
      refine V_callS (pc := 113) C (ct_L_state hT hl h) g794 g795 g796 g32 ⟨by decide, by decide, pl_L_state⟩ ⟨by decide, by decide⟩ (rest := []) rfl (le8 rfl) dL_minute_113 (fun v9 S8 h => ?_) (fun k9 S9 hk h => VX_out C htab hk (h.2 (by omega)))
      replace h := h.1 rfl
      refine V_st (st' := [Value.int v9]) rfl ?_
      refine V_iconst (pc := 116) C (v := 1) dL_minute_116 rfl ?_
      refine V_icmp_ne (pc := 117) (tgt := 138) C dL_minute_117 (by decide) h (fun h => ?_) (fun h => ?_)
      · refine V_sub [0, 1, 2, 3, 4, 5] rfl ?_
        exact k_L_minute_138 hT hl C hr hnm htab (fun h => ih h) h
      · refine V_aload_n (pc := 120) C dL_minute_120 rfl 1 rfl ?_
        refine V_aload_n (pc := 121) C dL_minute_121 rfl 2 rfl ?_
        refine V_iload (pc := 122) C dL_minute_122 5 rfl ?_
        refine V_callS (pc := 124) C (ct_L_end hT hl h) g808 g809 g810 g32 ⟨by decide, by decide, pl_L_end⟩ ⟨by decide, by decide⟩ (rest := []) rfl (le8 rfl) dL_minute_124 (fun v12 S11 h => ?_) (fun k9 S9 hk h => VX_out C htab hk (h.2 (by omega)))
        replace h := h.1 rfl
        refine V_st (st' := [Value.int v12]) rfl ?_
        refine V_aload (pc := 127) C dL_minute_127 4 rfl ?_
        refine V_iconst (pc := 129) C (v := 0) dL_minute_129 rfl ?_
        refine V_mld (pc := 130) C hT tb1_arr (n := 8) (c9 := 112) rfl rfl rfl h dL_minute_130 (fun h => ?_)
        refine V_icmp_ne (pc := 131) (tgt := 138) C dL_minute_131 (by decide) h (fun h => ?_) (fun h => ?_)
        · refine V_sub [0, 1, 2, 3, 4, 5] rfl ?_
          exact k_L_minute_138 hT hl C hr hnm htab (fun h => ih h) h
        · refine V_iconst (pc := 134) C (v := 1) dL_minute_134 rfl ?_
          refine V_goto (pc := 135) (tgt := 139) C dL_minute_135 (by decide) ?_
          refine V_sub [0, 1, 2, 3, 4, 5] rfl ?_
          exact k_L_minute_139 hT hl C hr hnm htab (fun h => ih h) h
def w_L_minute_92 (k11 : Int32 → Sg → Prop) (Q : Nat → Int32 → Sg → Prop) (x9 : Int32) (S : Sg) : Prop := k11 (x9 + 1) S
theorem k_L_minute_92 (hT : xT X = tb1) (hl : l.stackTraces = false) (C : Cn X k0 p l R s m meth c cL_minute RL 11 4 82) (hr : meth.sig.returnType = none) (hnm : meth.name = yL_minute.name) (htab : (∀ x ∈ c.exceptionTable.toList, False)) {k11 : Int32 → Sg → Prop} (hk11 : ∀ {x9 : Int32} {S : Sg}, k11 x9 S → V X p l e R s m args below meth c 11 (QM X below args s S0 ad0 rvV Qa) S0 ad0 S 11 [(0, Value.ref (enc 13 3)), (1, Value.ref (enc 13 4)), (2, Value.ref (enc 13 6)), (3, Value.ref (enc 13 7)), (4, Value.ref (enc 13 8)), (5, Value.ref (enc 13 9)), (6, Value.ref (enc 13 10)), (7, Value.ref (enc 13 11)), (8, Value.ref (enc 13 12)), (9, Value.int x9)] []) {x9 : Int32} {S : Sg} (h : w_L_minute_92 k11 Qa x9 S) : V X p l e R s m args below meth c 11 (QM X below args s S0 ad0 rvV Qa) S0 ad0 S 92 [(0, Value.ref (enc 13 3)), (1, Value.ref (enc 13 4)), (2, Value.ref (enc 13 6)), (3, Value.ref (enc 13 7)), (4, Value.ref (enc 13 8)), (5, Value.ref (enc 13 9)), (6, Value.ref (enc 13 10)), (7, Value.ref (enc 13 11)), (8, Value.ref (enc 13 12)), (9, Value.int x9)] [] := by
  refine V_iinc (pc := 92) C (a := 9) (v := x9 + 1) dL_minute_92 rfl rfl (by decide) rfl ?_
  refine V_goto (pc := 95) (tgt := 11) C dL_minute_95 (by decide) ?_
  refine V_sub [1, 2, 3, 4, 5, 6, 7, 8, 9, 0] rfl ?_
  exact hk11 h
def w_L_minute_11  (Q : Nat → Int32 → Sg → Prop) : Nat → Int32 → Sg → Prop
  | 0, _, _ => False
  | n + 1, x9, S => (vp_in 6 8 ∧ (((S.1 112 (nt 6)) ≤ x9 → ∃ n9, w_L_minute_101  Q n9 0 S) ∧ (¬ (S.1 112 (nt 6)) ≤ x9 → (vp_in x9 48 ∧ ((128 ≤ (S.1 110 (nt x9)) → w_L_minute_92 (fun x9 S => w_L_minute_11  Q n x9 S) Q x9 S) ∧ (¬ 128 ≤ (S.1 110 (nt x9)) → (vp_in (24 + x9) 48 ∧ (vp_in 0 8 ∧ (((S.1 110 (nt (24 + x9))) = (S.1 112 (nt 0)) → (vp_in x9 48 ∧ (vp_in x9 48 ∧ (∀ S14, S14 = su S 110 (nt x9) ((S.1 110 (nt x9)) + 128) → (vp_in x9 48 ∧ (vp_in x9 48 ∧ (w_L_frees ((S14.1 110 (nt x9)) - (S14.1 110 (nt x9)) / 8 * 8) (((S14.1 110 (nt x9)) / 8) - ((S14.1 110 (nt x9)) / 8) / 16 * 16) S14 (fun k17 v16 S15 => (k17 = 0 → w_L_minute_92 (fun x9 S => w_L_minute_11  Q n x9 S) Q x9 S15) ∧ (¬ k17 = 0 → Q k17 0 S15))))))))) ∧ (¬ (S.1 110 (nt (24 + x9))) = (S.1 112 (nt 0)) → w_L_minute_92 (fun x9 S => w_L_minute_11  Q n x9 S) Q x9 S))))))))))
theorem k_L_minute_11 (hT : xT X = tb1) (hl : l.stackTraces = false) (C : Cn X k0 p l R s m meth c cL_minute RL 11 4 82) (hr : meth.sig.returnType = none) (hnm : meth.name = yL_minute.name) (htab : (∀ x ∈ c.exceptionTable.toList, False))  : ∀ n {x9 : Int32} {S : Sg}, w_L_minute_11  Qa n x9 S → V X p l e R s m args below meth c 11 (QM X below args s S0 ad0 rvV Qa) S0 ad0 S 11 [(0, Value.ref (enc 13 3)), (1, Value.ref (enc 13 4)), (2, Value.ref (enc 13 6)), (3, Value.ref (enc 13 7)), (4, Value.ref (enc 13 8)), (5, Value.ref (enc 13 9)), (6, Value.ref (enc 13 10)), (7, Value.ref (enc 13 11)), (8, Value.ref (enc 13 12)), (9, Value.int x9)] [] := by
  intro n
  induction n with
  | zero => intro x9 S h; exact h.elim
  | succ n ih =>
    intro x9 S h
    refine V_iload (pc := 11) C dL_minute_11 9 rfl ?_
    refine V_aload (pc := 13) C dL_minute_13 8 rfl ?_
    refine V_bipush (pc := 15) C (v := 6) dL_minute_15 rfl ?_
    refine V_mld (pc := 17) C hT tb1_arr (n := 8) (c9 := 112) rfl rfl rfl h dL_minute_17 (fun h => ?_)
    refine V_icmp_ge (pc := 18) (tgt := 98) C dL_minute_18 (by decide) h (fun h => ?_) (fun h => ?_)
    · refine V_iconst (pc := 98) C (v := 0) dL_minute_98 rfl ?_
      refine V_istore (pc := 99) C dL_minute_99 (by decide) rfl ?_
      refine V_sub [1, 2, 3, 8, 9, 0] rfl ?_
      obtain ⟨n9, h⟩ := h
      exact k_L_minute_101 hT hl C hr hnm htab  n9 h
    · refine V_aload (pc := 21) C dL_minute_21 6 rfl ?_
      refine V_iload (pc := 23) C dL_minute_23 9 rfl ?_
      refine V_mld (pc := 25) C hT tb1_arr (n := 48) (c9 := 110) rfl rfl rfl h dL_minute_25 (fun h => ?_)
      refine V_sipush (pc := 26) C (v := 128) dL_minute_26 rfl ?_
      refine V_icmp_ge (pc := 29) (tgt := 92) C dL_minute_29 (by decide) h (fun h => ?_) (fun h => ?_)
      · refine V_sub [0, 1, 2, 3, 4, 5, 6, 7, 8, 9] rfl ?_
        exact k_L_minute_92 hT hl C hr hnm htab (fun h => ih h) h
      · refine V_aload (pc := 32) C dL_minute_32 6 rfl ?_
        refine V_bipush (pc := 34) C (v := 24) dL_minute_34 rfl ?_
        refine V_iload (pc := 36) C dL_minute_36 9 rfl ?_
        refine V_iadd (pc := 38) C dL_minute_38 ?_
        refine V_mld (pc := 39) C hT tb1_arr (n := 48) (c9 := 110) rfl rfl rfl h dL_minute_39 (fun h => ?_)
        refine V_aload (pc := 40) C dL_minute_40 8 rfl ?_
        refine V_iconst (pc := 42) C (v := 0) dL_minute_42 rfl ?_
        refine V_mld (pc := 43) C hT tb1_arr (n := 8) (c9 := 112) rfl rfl rfl h dL_minute_43 (fun h => ?_)
        refine V_icmp_ne (pc := 44) (tgt := 92) C dL_minute_44 (by decide) h (fun h => ?_) (fun h => ?_)
        · refine V_sub [0, 1, 2, 3, 4, 5, 6, 7, 8, 9] rfl ?_
          exact k_L_minute_92 hT hl C hr hnm htab (fun h => ih h) h
        · refine V_aload (pc := 47) C dL_minute_47 6 rfl ?_
          refine V_iload (pc := 49) C dL_minute_49 9 rfl ?_
          refine V_dup2 (pc := 51) C dL_minute_51 rfl rfl ?_
          refine V_mld (pc := 52) C hT tb1_arr (n := 48) (c9 := 110) rfl rfl rfl h dL_minute_52 (fun h => ?_)
          refine V_sipush (pc := 53) C (v := 128) dL_minute_53 rfl ?_
          refine V_iadd (pc := 56) C dL_minute_56 ?_
          refine V_mst (pc := 57) C hT tb1_arr (n := 48) (c9 := 110) (by decide) rfl rfl rfl h dL_minute_57 (fun h => V_nx fun S14 e9 => ?_)
          replace h := h S14 e9; clear e9
          refine V_aload_n (pc := 58) C dL_minute_58 rfl 1 rfl ?_
          refine V_aload_n (pc := 59) C dL_minute_59 rfl 2 rfl ?_
          refine V_aload_n (pc := 60) C dL_minute_60 rfl 3 rfl ?_
          refine V_aload (pc := 61) C dL_minute_61 4 rfl ?_
          refine V_aload (pc := 63) C dL_minute_63 5 rfl ?_
          refine V_aload (pc := 65) C dL_minute_65 7 rfl ?_
          refine V_aload (pc := 67) C dL_minute_67 8 rfl ?_
          refine V_aload (pc := 69) C dL_minute_69 6 rfl ?_
          refine V_iload (pc := 71) C dL_minute_71 9 rfl ?_
          refine V_mld (pc := 73) C hT tb1_arr (n := 48) (c9 := 110) rfl rfl rfl h dL_minute_73 (fun h => ?_)
          refine V_bipush (pc := 74) C (v := 8) dL_minute_74 rfl ?_
          refine V_irem (pc := 76) C dL_minute_76 (by decide) ?_
          refine V_aload (pc := 77) C dL_minute_77 6 rfl ?_
          refine V_iload (pc := 79) C dL_minute_79 9 rfl ?_
          refine V_mld (pc := 81) C hT tb1_arr (n := 48) (c9 := 110) rfl rfl rfl h dL_minute_81 (fun h => ?_)
          refine V_bipush (pc := 82) C (v := 8) dL_minute_82 rfl ?_
          refine V_idiv (pc := 84) C dL_minute_84 (by decide) ?_
          refine V_bipush (pc := 85) C (v := 16) dL_minute_85 rfl ?_
          refine V_irem (pc := 87) C dL_minute_87 (by decide) ?_
          refine V_callS (pc := 88) C (ct_L_frees hT hl h) g893 g894 g895 g32 ⟨by decide, by decide, pl_L_frees⟩ ⟨by decide, by decide⟩ (rest := []) rfl (le8 rfl) dL_minute_88 (fun v16 S15 h => ?_) (fun k9 S9 hk h => VX_out C htab hk (h.2 (by omega)))
          replace h := h.1 rfl
          refine V_st (st' := [Value.int v16]) rfl ?_
          refine V_pop (pc := 91) C dL_minute_91 rfl ?_
          refine V_sub [0, 1, 2, 3, 4, 5, 6, 7, 8, 9] rfl ?_
          exact k_L_minute_92 hT hl C hr hnm htab (fun h => ih h) h
def w_L_minute  (S : Sg) (Q : Nat → Int32 → Sg → Prop) : Prop := (vp_in 0 8 ∧ (vp_in 0 8 ∧ (∀ S18, S18 = su S 112 (nt 0) ((S.1 112 (nt 0)) + 1) → ∃ n9, w_L_minute_11  Q n9 0 S18)))
theorem ct_L_minute (hT : xT X = tb1) (hl : l.stackTraces = false)  {S : Sg} (h : w_L_minute  S Qa) : CT X k0 l yL_minute cL_minute 11 none 4 82 [Value.ref (enc 13 3), Value.ref (enc 13 4), Value.ref (enc 13 6), Value.ref (enc 13 7), Value.ref (enc 13 8), Value.ref (enc 13 9), Value.ref (enc 13 10), Value.ref (enc 13 11), Value.ref (enc 13 12)] rvV S Qa :=
  CT_ofV (own := RL) (by decide +kernel) (le8 rfl) rfl hl fun p e R s m args below meth c ad0 C hr hnm htab => by
    refine V_aload (pc := 0) C dL_minute_0 8 rfl ?_
    refine V_iconst (pc := 2) C (v := 0) dL_minute_2 rfl ?_
    refine V_dup2 (pc := 3) C dL_minute_3 rfl rfl ?_
    refine V_mld (pc := 4) C hT tb1_arr (n := 8) (c9 := 112) rfl rfl rfl h dL_minute_4 (fun h => ?_)
    refine V_iconst (pc := 5) C (v := 1) dL_minute_5 rfl ?_
    refine V_iadd (pc := 6) C dL_minute_6 ?_
    refine V_mst (pc := 7) C hT tb1_arr (n := 8) (c9 := 112) (by decide) rfl rfl rfl h dL_minute_7 (fun h => V_nx fun S18 e9 => ?_)
    replace h := h S18 e9; clear e9
    refine V_iconst (pc := 8) C (v := 0) dL_minute_8 rfl ?_
    refine V_istore (pc := 9) C dL_minute_9 (by decide) rfl ?_
    refine V_sub [1, 2, 3, 4, 5, 6, 7, 8, 9, 0] rfl ?_
    obtain ⟨n9, h⟩ := h
    exact k_L_minute_11 hT hl C hr hnm htab  n9 h
theorem pl_L_takings : (parseMethodDescriptor yL_takings.desc).map (fun d => d.parameters.length) = some 6 := by decide +kernel
def w_L_takings_167  (Q : Nat → Int32 → Sg → Prop) (x6 : Int32) (x7 : Int32) (S : Sg) : Prop := ((x6 = 1000 → Q 0 (-1) S) ∧ (¬ x6 = 1000 → Q 0 x7 S))
theorem k_L_takings_167 (hT : xT X = tb1) (hl : l.stackTraces = false) (C : Cn X k0 p l R s m meth c cL_takings RL 10 2 21) (hr : meth.sig.returnType = (some .int)) (hnm : meth.name = yL_takings.name) (htab : (∀ x ∈ c.exceptionTable.toList, False))  {x6 : Int32} {x7 : Int32} {S : Sg} (h : w_L_takings_167  Qa x6 x7 S) : V X p l e R s m args below meth c 10 (QM X below args s S0 ad0 rvI Qa) S0 ad0 S 167 [(6, Value.int x6), (7, Value.int x7)] [] := by
  refine V_iload (pc := 167) C dL_takings_167 0 rfl ?_
  refine V_sipush (pc := 169) C (v := 1000) dL_takings_169 rfl ?_
  refine V_icmp_ne (pc := 172) (tgt := 179) C dL_takings_172 (by decide) h (fun h => ?_) (fun h => ?_)
  · refine V_iload (pc := 179) C dL_takings_179 1 rfl ?_
    exact V_iret (pc := 181) C hr rfl h dL_takings_181
  · refine V_iconst (pc := 175) C (v := (-1)) dL_takings_175 rfl ?_
    refine V_goto (pc := 176) (tgt := 181) C dL_takings_176 (by decide) ?_
    exact V_iret (pc := 181) C hr rfl h dL_takings_181
def w_L_takings_158 (k93 : Int32 → Int32 → Int32 → Int32 → Int32 → Sg → Prop) (Q : Nat → Int32 → Sg → Prop) (x4 : Int32) (x5 : Int32) (x6 : Int32) (x8 : Int32) (y0 : Int32) (y1 : Int32) (S : Sg) : Prop := (∀ v1, v1 = y1 + y0 → k93 x4 x5 x6 v1 (x8 + 1) S)
theorem k_L_takings_158 (hT : xT X = tb1) (hl : l.stackTraces = false) (C : Cn X k0 p l R s m meth c cL_takings RL 10 2 21) (hr : meth.sig.returnType = (some .int)) (hnm : meth.name = yL_takings.name) (htab : (∀ x ∈ c.exceptionTable.toList, False)) {k93 : Int32 → Int32 → Int32 → Int32 → Int32 → Sg → Prop} (hk93 : ∀ {x4 : Int32} {x5 : Int32} {x6 : Int32} {x7 : Int32} {x8 : Int32} {S : Sg}, k93 x4 x5 x6 x7 x8 S → V X p l e R s m args below meth c 10 (QM X below args s S0 ad0 rvI Qa) S0 ad0 S 93 [(0, Value.ref (enc 13 6)), (1, Value.ref (enc 13 8)), (2, Value.ref (enc 13 9)), (3, Value.ref (enc 13 12)), (4, Value.int x4), (5, Value.int x5), (6, Value.int x6), (7, Value.int x7), (8, Value.int x8)] []) {x4 : Int32} {x5 : Int32} {x6 : Int32} {x8 : Int32} {y0 : Int32} {y1 : Int32} {S : Sg} (h : w_L_takings_158 k93 Qa x4 x5 x6 x8 y0 y1 S) : V X p l e R s m args below meth c 10 (QM X below args s S0 ad0 rvI Qa) S0 ad0 S 158 [(0, Value.ref (enc 13 6)), (1, Value.ref (enc 13 8)), (2, Value.ref (enc 13 9)), (3, Value.ref (enc 13 12)), (4, Value.int x4), (5, Value.int x5), (6, Value.int x6), (8, Value.int x8)] [Value.int y0, Value.int y1] := by
  refine V_iadd (pc := 158) C dL_takings_158 ?_
  refine V_nI fun v1 e9 => ?_
  replace h := h v1 e9; clear e9
  refine V_istore (pc := 159) C dL_takings_159 (by decide) rfl ?_
  refine V_iinc (pc := 161) C (a := 8) (v := x8 + 1) dL_takings_161 rfl rfl (by decide) rfl ?_
  refine V_goto (pc := 164) (tgt := 93) C dL_takings_164 (by decide) ?_
  refine V_sub [2, 3, 4, 5, 6, 7, 8, 1, 0] rfl ?_
  exact hk93 h
def w_L_takings_157 (k93 : Int32 → Int32 → Int32 → Int32 → Int32 → Sg → Prop) (Q : Nat → Int32 → Sg → Prop) (x4 : Int32) (x5 : Int32) (x6 : Int32) (x8 : Int32) (y0 : Int32) (S : Sg) : Prop := w_L_takings_158 k93 Q x4 x5 x6 x8 0 y0 S
theorem k_L_takings_157 (hT : xT X = tb1) (hl : l.stackTraces = false) (C : Cn X k0 p l R s m meth c cL_takings RL 10 2 21) (hr : meth.sig.returnType = (some .int)) (hnm : meth.name = yL_takings.name) (htab : (∀ x ∈ c.exceptionTable.toList, False)) {k93 : Int32 → Int32 → Int32 → Int32 → Int32 → Sg → Prop} (hk93 : ∀ {x4 : Int32} {x5 : Int32} {x6 : Int32} {x7 : Int32} {x8 : Int32} {S : Sg}, k93 x4 x5 x6 x7 x8 S → V X p l e R s m args below meth c 10 (QM X below args s S0 ad0 rvI Qa) S0 ad0 S 93 [(0, Value.ref (enc 13 6)), (1, Value.ref (enc 13 8)), (2, Value.ref (enc 13 9)), (3, Value.ref (enc 13 12)), (4, Value.int x4), (5, Value.int x5), (6, Value.int x6), (7, Value.int x7), (8, Value.int x8)] []) {x4 : Int32} {x5 : Int32} {x6 : Int32} {x8 : Int32} {y0 : Int32} {S : Sg} (h : w_L_takings_157 k93 Qa x4 x5 x6 x8 y0 S) : V X p l e R s m args below meth c 10 (QM X below args s S0 ad0 rvI Qa) S0 ad0 S 157 [(0, Value.ref (enc 13 6)), (1, Value.ref (enc 13 8)), (2, Value.ref (enc 13 9)), (3, Value.ref (enc 13 12)), (4, Value.int x4), (5, Value.int x5), (6, Value.int x6), (8, Value.int x8)] [Value.int y0] := by
  refine V_iconst (pc := 157) C (v := 0) dL_takings_157 rfl ?_
  refine V_sub [0, 1, 2, 3, 4, 5, 6, 7] rfl ?_
  exact k_L_takings_158 hT hl C hr hnm htab (fun h => hk93 h) h
def w_L_takings_93  (Q : Nat → Int32 → Sg → Prop) : Nat → Int32 → Int32 → Int32 → Int32 → Int32 → Sg → Prop
  | 0, _, _, _, _, _, _ => False
  | n + 1, x4, x5, x6, x7, x8, S => (vp_in 7 8 ∧ (((S.1 112 (nt 7)) ≤ x8 → w_L_takings_167  Q x6 x7 S) ∧ (¬ (S.1 112 (nt 7)) ≤ x8 → ((1000 ≤ x6 → w_L_takings_167  Q x6 x7 S) ∧ (¬ 1000 ≤ x6 → (vp_in x8 64 ∧ (∀ v2, v2 = (S.1 108 (nt x8)) - (S.1 108 (nt x8)) / 8 * 8 → (vp_in v2 11 ∧ ((((S.1 106 (nt v2)) - (S.1 106 (nt v2)) / 4 * 4) = x4 → (vp_in (5 + v2) 11 ∧ ((((S.1 106 (nt (5 + v2))) / 10080) = (x6 + x5) → (vp_in x8 64 ∧ w_L_takings_158 (fun x4 x5 x6 x7 x8 S => w_L_takings_93  Q n x4 x5 x6 x7 x8 S) Q x4 x5 x6 x8 (S.1 109 (nt x8)) x7 S)) ∧ (¬ ((S.1 106 (nt (5 + v2))) / 10080) = (x6 + x5) → w_L_takings_157 (fun x4 x5 x6 x7 x8 S => w_L_takings_93  Q n x4 x5 x6 x7 x8 S) Q x4 x5 x6 x8 x7 S)))) ∧ (¬ ((S.1 106 (nt v2)) - (S.1 106 (nt v2)) / 4 * 4) = x4 → w_L_takings_157 (fun x4 x5 x6 x7 x8 S => w_L_takings_93  Q n x4 x5 x6 x7 x8 S) Q x4 x5 x6 x8 x7 S))))))))))
theorem k_L_takings_93 (hT : xT X = tb1) (hl : l.stackTraces = false) (C : Cn X k0 p l R s m meth c cL_takings RL 10 2 21) (hr : meth.sig.returnType = (some .int)) (hnm : meth.name = yL_takings.name) (htab : (∀ x ∈ c.exceptionTable.toList, False))  : ∀ n {x4 : Int32} {x5 : Int32} {x6 : Int32} {x7 : Int32} {x8 : Int32} {S : Sg}, w_L_takings_93  Qa n x4 x5 x6 x7 x8 S → V X p l e R s m args below meth c 10 (QM X below args s S0 ad0 rvI Qa) S0 ad0 S 93 [(0, Value.ref (enc 13 6)), (1, Value.ref (enc 13 8)), (2, Value.ref (enc 13 9)), (3, Value.ref (enc 13 12)), (4, Value.int x4), (5, Value.int x5), (6, Value.int x6), (7, Value.int x7), (8, Value.int x8)] [] := by
  intro n
  induction n with
  | zero => intro x4 x5 x6 x7 x8 S h; exact h.elim
  | succ n ih =>
    intro x4 x5 x6 x7 x8 S h
    refine V_iload (pc := 93) C dL_takings_93 8 rfl ?_
    refine V_aload_n (pc := 95) C dL_takings_95 rfl 3 rfl ?_
    refine V_bipush (pc := 96) C (v := 7) dL_takings_96 rfl ?_
    refine V_mld (pc := 98) C hT tb1_arr (n := 8) (c9 := 112) rfl rfl rfl h dL_takings_98 (fun h => ?_)
    refine V_icmp_ge (pc := 99) (tgt := 167) C dL_takings_99 (by decide) h (fun h => ?_) (fun h => ?_)
    · refine V_sub [6, 7] rfl ?_
      exact k_L_takings_167 hT hl C hr hnm htab  h
    · refine V_iload (pc := 102) C dL_takings_102 6 rfl ?_
      refine V_sipush (pc := 104) C (v := 1000) dL_takings_104 rfl ?_
      refine V_icmp_ge (pc := 107) (tgt := 167) C dL_takings_107 (by decide) h (fun h => ?_) (fun h => ?_)
      · refine V_sub [6, 7] rfl ?_
        exact k_L_takings_167 hT hl C hr hnm htab  h
      · refine V_aload_n (pc := 110) C dL_takings_110 rfl 1 rfl ?_
        refine V_iload (pc := 111) C dL_takings_111 8 rfl ?_
        refine V_mld (pc := 113) C hT tb1_arr (n := 64) (c9 := 108) rfl rfl rfl h dL_takings_113 (fun h => ?_)
        refine V_bipush (pc := 114) C (v := 8) dL_takings_114 rfl ?_
        refine V_irem (pc := 116) C dL_takings_116 (by decide) ?_
        refine V_nI fun v2 e9 => ?_
        replace h := h v2 e9; clear e9
        refine V_istore (pc := 117) C dL_takings_117 (by decide) rfl ?_
        refine V_iload (pc := 119) C dL_takings_119 8 rfl ?_
        refine V_aload_n (pc := 121) C dL_takings_121 rfl 1 rfl ?_
        refine V_iload (pc := 122) C dL_takings_122 0 rfl ?_
        refine V_mld (pc := 124) C hT tb1_arr (n := 11) (c9 := 106) rfl rfl rfl h dL_takings_124 (fun h => ?_)
        refine V_iconst (pc := 125) C (v := 4) dL_takings_125 rfl ?_
        refine V_irem (pc := 126) C dL_takings_126 (by decide) ?_
        refine V_iload (pc := 127) C dL_takings_127 5 rfl ?_
        refine V_icmp_ne (pc := 129) (tgt := 157) C dL_takings_129 (by decide) h (fun h => ?_) (fun h => ?_)
        · refine V_sub [1, 2, 3, 4, 5, 6, 7, 9] rfl ?_
          exact k_L_takings_157 hT hl C hr hnm htab (fun h => ih h) h
        · refine V_aload_n (pc := 132) C dL_takings_132 rfl 1 rfl ?_
          refine V_iconst (pc := 133) C (v := 5) dL_takings_133 rfl ?_
          refine V_iload (pc := 134) C dL_takings_134 0 rfl ?_
          refine V_iadd (pc := 136) C dL_takings_136 ?_
          refine V_mld (pc := 137) C hT tb1_arr (n := 11) (c9 := 106) rfl rfl rfl h dL_takings_137 (fun h => ?_)
          refine V_sipush (pc := 138) C (v := 10080) dL_takings_138 rfl ?_
          refine V_idiv (pc := 141) C dL_takings_141 (by decide) ?_
          refine V_iload (pc := 142) C dL_takings_142 7 rfl ?_
          refine V_iload (pc := 144) C dL_takings_144 6 rfl ?_
          refine V_iadd (pc := 146) C dL_takings_146 ?_
          refine V_icmp_ne (pc := 147) (tgt := 157) C dL_takings_147 (by decide) h (fun h => ?_) (fun h => ?_)
          · refine V_sub [1, 2, 3, 4, 5, 6, 7, 9] rfl ?_
            exact k_L_takings_157 hT hl C hr hnm htab (fun h => ih h) h
          · refine V_aload_n (pc := 150) C dL_takings_150 rfl 3 rfl ?_
            refine V_iload (pc := 151) C dL_takings_151 9 rfl ?_
            refine V_mld (pc := 153) C hT tb1_arr (n := 64) (c9 := 109) rfl rfl rfl h dL_takings_153 (fun h => ?_)
            refine V_goto (pc := 154) (tgt := 158) C dL_takings_154 (by decide) ?_
            refine V_sub [1, 2, 3, 4, 5, 6, 7, 9] rfl ?_
            exact k_L_takings_158 hT hl C hr hnm htab (fun h => ih h) h
def w_L_takings_79 (k8 : Int32 → Int32 → Int32 → Int32 → Sg → Prop) (Q : Nat → Int32 → Sg → Prop) (x4 : Int32) (x5 : Int32) (x7 : Int32) (y0 : Int32) (S : Sg) : Prop := k8 x4 x5 y0 (x7 + 1) S
theorem k_L_takings_79 (hT : xT X = tb1) (hl : l.stackTraces = false) (C : Cn X k0 p l R s m meth c cL_takings RL 10 2 21) (hr : meth.sig.returnType = (some .int)) (hnm : meth.name = yL_takings.name) (htab : (∀ x ∈ c.exceptionTable.toList, False)) {k8 : Int32 → Int32 → Int32 → Int32 → Sg → Prop} (hk8 : ∀ {x4 : Int32} {x5 : Int32} {x6 : Int32} {x7 : Int32} {S : Sg}, k8 x4 x5 x6 x7 S → V X p l e R s m args below meth c 10 (QM X below args s S0 ad0 rvI Qa) S0 ad0 S 8 [(0, Value.ref (enc 13 6)), (1, Value.ref (enc 13 8)), (2, Value.ref (enc 13 9)), (3, Value.ref (enc 13 12)), (4, Value.int x4), (5, Value.int x5), (6, Value.int x6), (7, Value.int x7)] []) {x4 : Int32} {x5 : Int32} {x7 : Int32} {y0 : Int32} {S : Sg} (h : w_L_takings_79 k8 Qa x4 x5 x7 y0 S) : V X p l e R s m args below meth c 10 (QM X below args s S0 ad0 rvI Qa) S0 ad0 S 79 [(0, Value.ref (enc 13 6)), (1, Value.ref (enc 13 8)), (2, Value.ref (enc 13 9)), (3, Value.ref (enc 13 12)), (4, Value.int x4), (5, Value.int x5), (7, Value.int x7)] [Value.int y0] := by
  refine V_istore (pc := 79) C dL_takings_79 (by decide) rfl ?_
  refine V_iinc (pc := 81) C (a := 7) (v := x7 + 1) dL_takings_81 rfl rfl (by decide) rfl ?_
  refine V_goto (pc := 84) (tgt := 8) C dL_takings_84 (by decide) ?_
  refine V_sub [2, 3, 4, 5, 6, 7, 1, 0] rfl ?_
  exact hk8 h
def w_L_takings_57 (k8 : Int32 → Int32 → Int32 → Int32 → Sg → Prop) (Q : Nat → Int32 → Sg → Prop) (x4 : Int32) (x5 : Int32) (x6 : Int32) (x7 : Int32) (y0 : Int32) (S : Sg) : Prop := ((y0 = 0 → w_L_takings_79 k8 Q x4 x5 x7 x6 S) ∧ (¬ y0 = 0 → (vp_in (5 + x7) 11 ∧ w_L_takings_79 k8 Q x4 x5 x7 ((S.1 106 (nt (5 + x7))) / 10080) S)))
theorem k_L_takings_57 (hT : xT X = tb1) (hl : l.stackTraces = false) (C : Cn X k0 p l R s m meth c cL_takings RL 10 2 21) (hr : meth.sig.returnType = (some .int)) (hnm : meth.name = yL_takings.name) (htab : (∀ x ∈ c.exceptionTable.toList, False)) {k8 : Int32 → Int32 → Int32 → Int32 → Sg → Prop} (hk8 : ∀ {x4 : Int32} {x5 : Int32} {x6 : Int32} {x7 : Int32} {S : Sg}, k8 x4 x5 x6 x7 S → V X p l e R s m args below meth c 10 (QM X below args s S0 ad0 rvI Qa) S0 ad0 S 8 [(0, Value.ref (enc 13 6)), (1, Value.ref (enc 13 8)), (2, Value.ref (enc 13 9)), (3, Value.ref (enc 13 12)), (4, Value.int x4), (5, Value.int x5), (6, Value.int x6), (7, Value.int x7)] []) {x4 : Int32} {x5 : Int32} {x6 : Int32} {x7 : Int32} {y0 : Int32} {S : Sg} (h : w_L_takings_57 k8 Qa x4 x5 x6 x7 y0 S) : V X p l e R s m args below meth c 10 (QM X below args s S0 ad0 rvI Qa) S0 ad0 S 57 [(0, Value.ref (enc 13 6)), (1, Value.ref (enc 13 8)), (2, Value.ref (enc 13 9)), (3, Value.ref (enc 13 12)), (4, Value.int x4), (5, Value.int x5), (6, Value.int x6), (7, Value.int x7)] [Value.int y0] := by
  refine V_istore (pc := 57) C dL_takings_57 (by decide) rfl ?_
  refine V_iload (pc := 59) C dL_takings_59 0 rfl ?_
  refine V_if_eq (pc := 61) (tgt := 77) C dL_takings_61 (by decide) h (fun h => ?_) (fun h => ?_)
  · refine V_iload (pc := 77) C dL_takings_77 7 rfl ?_
    refine V_sub [1, 2, 3, 4, 5, 6, 8] rfl ?_
    exact k_L_takings_79 hT hl C hr hnm htab (fun h => hk8 h) h
  · refine V_aload_n (pc := 64) C dL_takings_64 rfl 1 rfl ?_
    refine V_iconst (pc := 65) C (v := 5) dL_takings_65 rfl ?_
    refine V_iload (pc := 66) C dL_takings_66 8 rfl ?_
    refine V_iadd (pc := 68) C dL_takings_68 ?_
    refine V_mld (pc := 69) C hT tb1_arr (n := 11) (c9 := 106) rfl rfl rfl h dL_takings_69 (fun h => ?_)
    refine V_sipush (pc := 70) C (v := 10080) dL_takings_70 rfl ?_
    refine V_idiv (pc := 73) C dL_takings_73 (by decide) ?_
    refine V_goto (pc := 74) (tgt := 79) C dL_takings_74 (by decide) ?_
    refine V_sub [1, 2, 3, 4, 5, 6, 8] rfl ?_
    exact k_L_takings_79 hT hl C hr hnm htab (fun h => hk8 h) h
def w_L_takings_56 (k8 : Int32 → Int32 → Int32 → Int32 → Sg → Prop) (Q : Nat → Int32 → Sg → Prop) (x4 : Int32) (x5 : Int32) (x6 : Int32) (x7 : Int32) (S : Sg) : Prop := w_L_takings_57 k8 Q x4 x5 x6 x7 0 S
theorem k_L_takings_56 (hT : xT X = tb1) (hl : l.stackTraces = false) (C : Cn X k0 p l R s m meth c cL_takings RL 10 2 21) (hr : meth.sig.returnType = (some .int)) (hnm : meth.name = yL_takings.name) (htab : (∀ x ∈ c.exceptionTable.toList, False)) {k8 : Int32 → Int32 → Int32 → Int32 → Sg → Prop} (hk8 : ∀ {x4 : Int32} {x5 : Int32} {x6 : Int32} {x7 : Int32} {S : Sg}, k8 x4 x5 x6 x7 S → V X p l e R s m args below meth c 10 (QM X below args s S0 ad0 rvI Qa) S0 ad0 S 8 [(0, Value.ref (enc 13 6)), (1, Value.ref (enc 13 8)), (2, Value.ref (enc 13 9)), (3, Value.ref (enc 13 12)), (4, Value.int x4), (5, Value.int x5), (6, Value.int x6), (7, Value.int x7)] []) {x4 : Int32} {x5 : Int32} {x6 : Int32} {x7 : Int32} {S : Sg} (h : w_L_takings_56 k8 Qa x4 x5 x6 x7 S) : V X p l e R s m args below meth c 10 (QM X below args s S0 ad0 rvI Qa) S0 ad0 S 56 [(0, Value.ref (enc 13 6)), (1, Value.ref (enc 13 8)), (2, Value.ref (enc 13 9)), (3, Value.ref (enc 13 12)), (4, Value.int x4), (5, Value.int x5), (6, Value.int x6), (7, Value.int x7)] [] := by
  refine V_iconst (pc := 56) C (v := 0) dL_takings_56 rfl ?_
  refine V_sub [0, 1, 2, 3, 4, 5, 6, 7] rfl ?_
  exact k_L_takings_57 hT hl C hr hnm htab (fun h => hk8 h) h
def w_L_takings_8  (Q : Nat → Int32 → Sg → Prop) : Nat → Int32 → Int32 → Int32 → Int32 → Sg → Prop
  | 0, _, _, _, _, _ => False
  | n + 1, x4, x5, x6, x7, S => (vp_in 5 8 ∧ (((S.1 112 (nt 5)) ≤ x7 → ∃ n9, w_L_takings_93  Q n9 x4 x5 x6 0 0 S) ∧ (¬ (S.1 112 (nt 5)) ≤ x7 → (vp_in x7 11 ∧ ((((S.1 106 (nt x7)) - (S.1 106 (nt x7)) / 4 * 4) = x4 → (w_L_state x7 S (fun k5 v4 S3 => (k5 = 0 → ((4 ≤ v4 → w_L_takings_56 (fun x4 x5 x6 x7 S => w_L_takings_8  Q n x4 x5 x6 x7 S) Q x4 x5 x6 x7 S3) ∧ (¬ 4 ≤ v4 → (vp_in (5 + x7) 11 ∧ ((x6 ≤ ((S3.1 106 (nt (5 + x7))) / 10080) → w_L_takings_56 (fun x4 x5 x6 x7 S => w_L_takings_8  Q n x4 x5 x6 x7 S) Q x4 x5 x6 x7 S3) ∧ (¬ x6 ≤ ((S3.1 106 (nt (5 + x7))) / 10080) → w_L_takings_57 (fun x4 x5 x6 x7 S => w_L_takings_8  Q n x4 x5 x6 x7 S) Q x4 x5 x6 x7 1 S3)))))) ∧ (¬ k5 = 0 → Q k5 0 S3)))) ∧ (¬ ((S.1 106 (nt x7)) - (S.1 106 (nt x7)) / 4 * 4) = x4 → w_L_takings_56 (fun x4 x5 x6 x7 S => w_L_takings_8  Q n x4 x5 x6 x7 S) Q x4 x5 x6 x7 S))))))
theorem k_L_takings_8 (hT : xT X = tb1) (hl : l.stackTraces = false) (C : Cn X k0 p l R s m meth c cL_takings RL 10 2 21) (hr : meth.sig.returnType = (some .int)) (hnm : meth.name = yL_takings.name) (htab : (∀ x ∈ c.exceptionTable.toList, False))  : ∀ n {x4 : Int32} {x5 : Int32} {x6 : Int32} {x7 : Int32} {S : Sg}, w_L_takings_8  Qa n x4 x5 x6 x7 S → V X p l e R s m args below meth c 10 (QM X below args s S0 ad0 rvI Qa) S0 ad0 S 8 [(0, Value.ref (enc 13 6)), (1, Value.ref (enc 13 8)), (2, Value.ref (enc 13 9)), (3, Value.ref (enc 13 12)), (4, Value.int x4), (5, Value.int x5), (6, Value.int x6), (7, Value.int x7)] [] := by
  intro n
  induction n with
  | zero => intro x4 x5 x6 x7 S h; exact h.elim
  | succ n ih =>
    intro x4 x5 x6 x7 S h
    refine V_iload (pc := 8) C dL_takings_8 7 rfl ?_
    refine V_aload_n (pc := 10) C dL_takings_10 rfl 3 rfl ?_
    refine V_iconst (pc := 11) C (v := 5) dL_takings_11 rfl ?_
    refine V_mld (pc := 12) C hT tb1_arr (n := 8) (c9 := 112) rfl rfl rfl h dL_takings_12 (fun h => ?_)
    refine V_icmp_ge (pc := 13) (tgt := 87) C dL_takings_13 (by decide) h (fun h => ?_) (fun h => ?_)
    · refine V_iconst (pc := 87) C (v := 0) dL_takings_87 rfl ?_
      refine V_istore (pc := 88) C dL_takings_88 (by decide) rfl ?_
      refine V_iconst (pc := 90) C (v := 0) dL_takings_90 rfl ?_
      refine V_istore (pc := 91) C dL_takings_91 (by decide) rfl ?_
      refine V_sub [2, 3, 4, 5, 6, 7, 8, 1, 0] rfl ?_
      obtain ⟨n9, h⟩ := h
      exact k_L_takings_93 hT hl C hr hnm htab  n9 h
    · refine V_aload_n (pc := 16) C dL_takings_16 rfl 0 rfl ?_
      refine V_iload (pc := 17) C dL_takings_17 7 rfl ?_
      refine V_mld (pc := 19) C hT tb1_arr (n := 11) (c9 := 106) rfl rfl rfl h dL_takings_19 (fun h => ?_)
      refine V_iconst (pc := 20) C (v := 4) dL_takings_20 rfl ?_
      refine V_irem (pc := 21) C dL_takings_21 (by decide) ?_
      refine V_iload (pc := 22) C dL_takings_22 4 rfl ?_
      refine V_icmp_ne (pc := 24) (tgt := 56) C dL_takings_24 (by decide) h (fun h => ?_) (fun h => ?_)
      · refine V_sub [0, 1, 2, 3, 4, 5, 6, 7] rfl ?_
        exact k_L_takings_56 hT hl C hr hnm htab (fun h => ih h) h
      · refine V_aload_n (pc := 27) C dL_takings_27 rfl 0 rfl ?_
        refine V_iload (pc := 28) C dL_takings_28 7 rfl ?_
        refine V_callS (pc := 30) C (ct_L_state hT hl h) g794 g795 g796 g32 ⟨by decide, by decide, pl_L_state⟩ ⟨by decide, by decide⟩ (rest := []) rfl (le8 rfl) dL_takings_30 (fun v4 S3 h => ?_) (fun k9 S9 hk h => VX_out C htab hk (h.2 (by omega)))
        replace h := h.1 rfl
        refine V_st (st' := [Value.int v4]) rfl ?_
        refine V_iconst (pc := 33) C (v := 4) dL_takings_33 rfl ?_
        refine V_icmp_ge (pc := 34) (tgt := 56) C dL_takings_34 (by decide) h (fun h => ?_) (fun h => ?_)
        · refine V_sub [0, 1, 2, 3, 4, 5, 6, 7] rfl ?_
          exact k_L_takings_56 hT hl C hr hnm htab (fun h => ih h) h
        · refine V_aload_n (pc := 37) C dL_takings_37 rfl 0 rfl ?_
          refine V_iconst (pc := 38) C (v := 5) dL_takings_38 rfl ?_
          refine V_iload (pc := 39) C dL_takings_39 7 rfl ?_
          refine V_iadd (pc := 41) C dL_takings_41 ?_
          refine V_mld (pc := 42) C hT tb1_arr (n := 11) (c9 := 106) rfl rfl rfl h dL_takings_42 (fun h => ?_)
          refine V_sipush (pc := 43) C (v := 10080) dL_takings_43 rfl ?_
          refine V_idiv (pc := 46) C dL_takings_46 (by decide) ?_
          refine V_iload (pc := 47) C dL_takings_47 6 rfl ?_
          refine V_icmp_ge (pc := 49) (tgt := 56) C dL_takings_49 (by decide) h (fun h => ?_) (fun h => ?_)
          · refine V_sub [0, 1, 2, 3, 4, 5, 6, 7] rfl ?_
            exact k_L_takings_56 hT hl C hr hnm htab (fun h => ih h) h
          · refine V_iconst (pc := 52) C (v := 1) dL_takings_52 rfl ?_
            refine V_goto (pc := 53) (tgt := 57) C dL_takings_53 (by decide) ?_
            refine V_sub [0, 1, 2, 3, 4, 5, 6, 7] rfl ?_
            exact k_L_takings_57 hT hl C hr hnm htab (fun h => ih h) h
def w_L_takings (a4 : Int32) (a5 : Int32) (S : Sg) (Q : Nat → Int32 → Sg → Prop) : Prop := ∃ n9, w_L_takings_8  Q n9 a4 a5 1000 0 S
theorem ct_L_takings (hT : xT X = tb1) (hl : l.stackTraces = false) {a4 : Int32} {a5 : Int32} {S : Sg} (h : w_L_takings a4 a5 S Qa) : CT X k0 l yL_takings cL_takings 10 (some .int) 2 21 [Value.ref (enc 13 6), Value.ref (enc 13 8), Value.ref (enc 13 9), Value.ref (enc 13 12), Value.int a4, Value.int a5] rvI S Qa :=
  CT_ofV (own := RL) (by decide +kernel) (le8 rfl) rfl hl fun p e R s m args below meth c ad0 C hr hnm htab => by
    refine V_sipush (pc := 0) C (v := 1000) dL_takings_0 rfl ?_
    refine V_istore (pc := 3) C dL_takings_3 (by decide) rfl ?_
    refine V_iconst (pc := 5) C (v := 0) dL_takings_5 rfl ?_
    refine V_istore (pc := 6) C dL_takings_6 (by decide) rfl ?_
    refine V_sub [2, 3, 4, 5, 6, 7, 1, 0] rfl ?_
    obtain ⟨n9, h⟩ := h
    exact k_L_takings_8 hT hl C hr hnm htab  n9 h
end LA
