/-! a list's members as contracts; a nest mate's constructor -/
section RC
variable {X : Cx} {K : KL} {p : Program} {l : Launch} {e : Env} {R : Room} {s : State} {m : MethodId} {args : Array Value} {below : List Frame} {meth : Method} {c : Code} {nL fr lo : Nat} {Q : State → Prop} {S0 S : Sg} {ad0 : Nat → Nat}
variable {cc : ByteArray} {own : String} {pc : Nat} {lv : List (Nat × Value)} {st : List Value} {rv : Int32 → Option Value} {Qa : Nat → Int32 → Sg → Prop}
theorem V_callIN (C : Cn X K p l R s m meth c cc own nL fr lo) {index fr' lo' maxL b : Nat} {y : MethodName} {bytes : ByteArray} {As rest : List Value} {rvg : Int32 → Option Value} {Qg : Nat → Int32 → Sg → Prop} (ct9 : CT X K l y bytes maxL none fr' lo' (.ref b :: As) rvg S Qg)
    (hyn : own = RX5 ∧ index = 11 ∧ y = yX4_init) (w2 : Cond.instanceMethod y ∈ gW) (w4 : Cond.code y bytes maxL none ∈ gW) (w5 : Cond.initialized y.cls ∈ gW) (hy1 : y.name = "<init>") (hy : y.cls ≠ "java/lang/invoke/MethodHandle" ∧ y.cls ≠ "java/lang/invoke/VarHandle" ∧ (parseMethodDescriptor y.desc).map (fun d => d.parameters.length) = some As.length)
    (hR : fr' + 1 ≤ fr ∧ 8 + (maxL + 11) + lo' ≤ lo) (hst : st = As.reverse ++ .ref b :: rest) (hsum : (rest.map fun v => v.category).sum ≤ 8) (hdg : decode cc pc = .ok (.invokespecial index, 3))
    (kr : ∀ v S', Qg 0 v S' → V X p l e R s m args below meth c nL Q S0 ad0 (S') (pc + 3) (lv) ((rvg v).toList ++ rest)) (kx : ∀ k S', (k = 1 ∨ k = 2 ∨ k = 3) → Qg k 0 S' → VX X p l e R s m args below meth c nL Q S0 ad0 S' pc lv (exn k)) : V X p l e R s m args below meth c nL Q S0 ad0 (S) (pc) (lv) (st) := by
  intro h1 h2 ad H locs ls hE hW hL z1 z2 hl
  subst hst
  have hA : okL S (.ref b :: As) := ⟨(okL_app.mp h1).2.1, okL_rev.mp (okL_app.mp h1).1⟩
  have hM := ct9 hA ad H.size (slotSum H)
  have hP := CT_pre (y := y) (As := .ref b :: As) (bytes := bytes) (maxL := maxL) (ret := none) C hW
  have KKs := C.2.2.2.2.1
  have hnl : (Cond.methodLinkNest own index y "Platterhouse").before args s = true := by
    obtain ⟨-, -, -, -, -, -, -, -, -, -, -, h9, -⟩ := And.intro KKs.1 KKs.2
    rw [hyn.1, hyn.2.1, hyn.2.2]
    exact va_Nw.use rfl h9
  refine V_run hE hL hl h2 (okL_app.mp h1).2.2 (vx_runIN (host := "Platterhouse") (Ts := []) (As := As.map (cv ad)) (b := ad b) (n := As.length) ⟨C.1, C.2.1, C.2.2.1, C.2.2.2.1, fun w hw => absurd hw List.not_mem_nil⟩ hM ⟨⟨⟨rfl, rfl, by rw [C.2.2.2.2.2.2.1]; exact hR.1, by rw [C.2.2.2.2.2.2.2.1]; exact hR.2, fun w hw a' U hU => ?_, List.mem_cons_self⟩, KK.w KKs w4 args, KK.w KKs w5 args, ⟨hy.1, hy.2.1⟩, fun sig h => ?_, hnl⟩, hy1, KK.w KKs w2 args⟩ hP rfl (by rw [List.length_map]) hl.1 (by rw [List.map_append, List.map_reverse]; rfl) (lv_room (by rw [cv_sum]; exact hsum)) hdg (room_call C hW z1 z2)) kr kx
  · rw [List.mem_singleton.mp hw]; exact word_at hU (gW_good w4) (KK.w KKs w4 args)
  · have h9 := hy.2.2; rw [h] at h9; exact (Option.some.inj h9).symm
end RC
theorem nest_ok : RX5 = RX5 ∧ 11 = 11 ∧ yX4_init = yX4_init := ⟨rfl, rfl, rfl⟩
def w_size (j : Nat) (S : Sg) (Q : Nat → Int32 → Sg → Prop) : Prop := Q 0 (S.1 12 j) S
def w_get (j : Nat) (x : Int32) (S : Sg) (Q : Nat → Int32 → Sg → Prop) : Prop := (¬ x < 0 ∧ x < S.1 12 j) ∧ Q 0 x S
/-- what an element more does -/
def addR (j : Nat) (S S' : Sg) : Prop := (∀ c i, c ≠ 10 → c ≠ 11 → c ≠ 12 → c ≠ 13 → c ≠ 14 → c ≠ 16 → c ≠ 17 → S'.1 c i = S.1 c i) ∧ (∀ k, k ≠ 2 → S'.1 10 k = S.1 10 k) ∧ (∀ i, S'.1 12 i = if i = j then S.1 12 j + 1 else S.1 12 i) ∧ (¬ S'.1 13 j < 0 ∧ ∀ i, i ≠ j → S'.1 13 i = S.1 13 i) ∧ S'.2 = (S.2.1 + 1, S.2.2 + 700)
def w_add (j : Nat) (x : Int32) (S : Sg) (Q : Nat → Int32 → Sg → Prop) : Prop := (x = S.1 12 j ∧ nt x ≤ 460 ∧ (S.1 13 j = nE ∨ ¬ S.1 13 j < 0) ∧ S.2.1 + 1 ≤ nB1 ∧ S.2.2 + 700 ≤ nB2) ∧ ∀ S1, addR j S S1 → Q 0 1 S1
theorem pl_Jx4a65c_size_8abf5 : (parseMethodDescriptor yJx4a65c_size_8abf5.desc).map (fun d => d.parameters.length) = some 0 := by decide +kernel
theorem pl_Jx4a65c_get_915e3 : (parseMethodDescriptor yJx4a65c_get_915e3.desc).map (fun d => d.parameters.length) = some 1 := by decide +kernel
theorem pl_Jx4a65c_add_9ea2d : (parseMethodDescriptor yJx4a65c_add_9ea2d.desc).map (fun d => d.parameters.length) = some 1 := by decide +kernel
section LM
variable {X : Cx} {p : Program} {l : Launch} {e : Env} {R : Room} {s : State} {m : MethodId} {args : Array Value} {below : List Frame} {meth : Method} {c : Code} {S0 : Sg} {ad0 : Nat → Nat} {Qa : Nat → Int32 → Sg → Prop}
theorem ct_size (hT : xT X = tb1) (hl : l.stackTraces = false) {j : Nat} {S : Sg} (h : w_size j S Qa) : CT X k0 l yJx4a65c_size_8abf5 cJx4a65c_size_8abf5 1 (some .int) 1 0 [.ref (enc 1 j)] rvI S Qa :=
  CT_ofV (own := RJx4a65c) (by decide +kernel) (le8 rfl) rfl hl fun p e R s m args below meth c ad0 C hr hnm htab => by
    refine V_aload_n (pc := 0) C dJx4a65c_size_8abf5_0 rfl 0 rfl ?_
    refine V_getI (pc := 1) C hT f1_Jx4a65c_2 (gm 79 (by decide +kernel) (by decide +kernel)) dJx4a65c_size_8abf5_1 ?_
    exact V_iret (pc := 4) C hr rfl h dJx4a65c_size_8abf5_4
theorem nt_mono {x y : Int32} (h : ¬ x < 0) (h2 : x < y) : nt x < nt y := by
  have a := Int32.lt_iff_toInt_lt.mp h2
  have b : (0 : Int) ≤ x.toInt := by
    have := Int32.not_lt.mp h
    simpa using Int32.le_iff_toInt_le.mp this
  show x.toInt.toNat < y.toInt.toNat
  omega
theorem pl_J3_checkIndex_8e157 : (parseMethodDescriptor yJ3_checkIndex_8e157.desc).map (fun d => d.parameters.length) = some 3 := by decide +kernel
theorem pl_J15_checkIndex_7cf53 : (parseMethodDescriptor yJ15_checkIndex_7cf53.desc).map (fun d => d.parameters.length) = some 2 := by decide +kernel
theorem pl_Jx4a65c_elementData_915e3 : (parseMethodDescriptor yJx4a65c_elementData_915e3.desc).map (fun d => d.parameters.length) = some 1 := by decide +kernel
theorem ct_pchk (hl : l.stackTraces = false) {x n : Int32} {S : Sg} (h : (¬ x < 0 ∧ x < n) ∧ Qa 0 x S) : CT X k0 l yJ3_checkIndex_8e157 cJ3_checkIndex_8e157 3 (some .int) 1 0 [.int x, .int n, .null] rvI S Qa :=
  CT_ofV (own := RJ3) (by decide +kernel) (le8 rfl) rfl hl fun p e R s m args below meth c ad0 C hr hnm htab => by
    refine V_iload_n (pc := 0) C dJ3_checkIndex_8e157_0 rfl 0 rfl ?_
    refine V_if_lt (pc := 1) (tgt := 9) (A := False) (B := True) C dJ3_checkIndex_8e157_1 (by decide) ⟨h.1.1, fun _ => trivial⟩ (fun q => q.elim) (fun _ => ?_)
    refine V_iload_n (pc := 4) C dJ3_checkIndex_8e157_4 rfl 0 rfl ?_
    refine V_iload_n (pc := 5) C dJ3_checkIndex_8e157_5 rfl 1 rfl ?_
    refine V_icmp_lt (pc := 6) (tgt := 16) (A := True) (B := False) C dJ3_checkIndex_8e157_6 (by decide) ⟨fun _ => trivial, fun q => q h.1.2⟩ (fun _ => ?_) (fun q => q.elim)
    refine V_iload_n (pc := 16) C dJ3_checkIndex_8e157_16 rfl 0 rfl ?_
    exact V_iret (pc := 17) C hr rfl h.2 dJ3_checkIndex_8e157_17
theorem ct_ochk (hl : l.stackTraces = false) {x n : Int32} {S : Sg} (h : (¬ x < 0 ∧ x < n) ∧ Qa 0 x S) : CT X k0 l yJ15_checkIndex_7cf53 cJ15_checkIndex_7cf53 2 (some .int) 2 22 [.int x, .int n] rvI S Qa :=
  CT_ofV (own := RJ15) (by decide +kernel) (le8 rfl) rfl hl fun p e R s m args below meth c ad0 C hr hnm htab => by
    refine V_iload_n (pc := 0) C dJ15_checkIndex_7cf53_0 rfl 0 rfl ?_
    refine V_iload_n (pc := 1) C dJ15_checkIndex_7cf53_1 rfl 1 rfl ?_
    refine V_null (pc := 2) C dJ15_checkIndex_7cf53_2 ?_
    refine V_callS (pc := 3) C (ct_pchk (Qa := fun k v S1 => (k = 0 → Qa 0 v S1) ∧ (¬ k = 0 → Qa k 0 S1)) hl ⟨h.1, fun _ => h.2, fun q => absurd rfl q⟩) (gm 339 (by decide +kernel) (by decide +kernel)) (gm 340 (by decide +kernel) (by decide +kernel)) (gm 341 (by decide +kernel) (by decide +kernel)) (gm 49 (by decide +kernel) (by decide +kernel)) ⟨by decide, by decide, pl_J3_checkIndex_8e157⟩ ⟨by decide, by decide⟩ (rest := []) rfl (le8 rfl) dJ15_checkIndex_7cf53_3 (fun v S1 h => ?_) (fun k9 S9 hk h => VX_out C htab hk (h.2 (by omega)))
    replace h := h.1 rfl
    refine V_st (st' := [Value.int v]) rfl ?_
    exact V_iret (pc := 6) C hr rfl h dJ15_checkIndex_7cf53_6
theorem ct_elem (hT : xT X = tb1) (hl : l.stackTraces = false) {j : Nat} (hj : j < 6) {x : Int32} {S : Sg} (h : w_get j x S Qa) : CT X k0 l yJx4a65c_elementData_915e3 cJx4a65c_elementData_915e3 2 (some (.object "java/lang/Object")) 1 0 [.ref (enc 1 j), .int x] (rvR (3 + j)) S Qa :=
  CT_ofV (own := RJx4a65c) (by decide +kernel) (le8 rfl) rfl hl fun p e R s m args below meth c ad0 C hr hnm htab => by
    refine V_aload_n (pc := 0) C dJx4a65c_elementData_915e3_0 rfl 0 rfl ?_
    refine V_LI C fun hli => ?_
    have hs := nt_mono h.1.1 h.1.2
    rcases hli.2 j with ⟨q1, q2⟩ | ⟨q1, q2, q3, q4, q5, q6, q7, q8⟩
    · rw [q2] at hs
      exact absurd hs (Nat.not_lt_zero _)
    · refine V_getR (pc := 1) C hT f1_Jx4a65c_1 (by decide) (gm 78 (by decide +kernel) (by decide +kernel)) dJx4a65c_elementData_915e3_1 (A := True) ⟨q1, trivial⟩ (fun _ => ?_)
      refine V_iload_n (pc := 4) C dJx4a65c_elementData_915e3_4 rfl 1 rfl ?_
      refine V_aald (pc := 5) C hT tb1_arr ⟨h.1.1, by omega, q7⟩ dJx4a65c_elementData_915e3_5 ?_
      refine V_st (st' := [Value.ref (enc (3 + j) (nt x))]) (by rw [q3, nt_nI (by omega)]) ?_
      exact V_aret (pc := 6) C hr rfl h.2 dJx4a65c_elementData_915e3_6
theorem ct_get (hT : xT X = tb1) (hl : l.stackTraces = false) {j : Nat} (hj : j < 6) {x : Int32} {S : Sg} (h : w_get j x S Qa) : CT X k0 l yJx4a65c_get_915e3 cJx4a65c_get_915e3 2 (some (.object "java/lang/Object")) 3 60 [.ref (enc 1 j), .int x] (rvR (3 + j)) S Qa :=
  CT_ofV (own := RJx4a65c) (by decide +kernel) (le8 rfl) rfl hl fun p e R s m args below meth c ad0 C hr hnm htab => by
    refine V_iload_n (pc := 0) C dJx4a65c_get_915e3_0 rfl 1 rfl ?_
    refine V_aload_n (pc := 1) C dJx4a65c_get_915e3_1 rfl 0 rfl ?_
    refine V_getI (pc := 2) C hT f1_Jx4a65c_2 (gm 79 (by decide +kernel) (by decide +kernel)) dJx4a65c_get_915e3_2 ?_
    refine V_callS (pc := 5) C (ct_ochk (Qa := fun k v S1 => (k = 0 → S1 = S) ∧ (¬ k = 0 → Qa k 0 S1)) hl ⟨h.1, fun _ => rfl, fun q => absurd rfl q⟩) (gm 336 (by decide +kernel) (by decide +kernel)) (gm 337 (by decide +kernel) (by decide +kernel)) (gm 338 (by decide +kernel) (by decide +kernel)) (gm 48 (by decide +kernel) (by decide +kernel)) ⟨by decide, by decide, pl_J15_checkIndex_7cf53⟩ ⟨by decide, by decide⟩ (rest := []) rfl (le8 rfl) dJx4a65c_get_915e3_5 (fun v S1 h9 => ?_) (fun k9 S9 hk h => VX_out C htab hk (h.2 (by omega)))
    obtain rfl := h9.1 rfl
    refine V_st (st' := [Value.int v]) rfl ?_
    refine V_pop (pc := 8) C dJx4a65c_get_915e3_8 rfl ?_
    refine V_aload_n (pc := 9) C dJx4a65c_get_915e3_9 rfl 0 rfl ?_
    refine V_iload_n (pc := 10) C dJx4a65c_get_915e3_10 rfl 1 rfl ?_
    refine V_callV (pc := 11) C (ct_elem (Qa := fun k v S1 => (k = 0 → Qa 0 v S1) ∧ (¬ k = 0 → Qa k 0 S1)) hT hl hj ⟨h.1, fun _ => h.2, fun q => absurd rfl q⟩) (gm 342 (by decide +kernel) (by decide +kernel)) (gm 343 (by decide +kernel) (by decide +kernel)) (gm 344 (by decide +kernel) (by decide +kernel)) (gm 345 (by decide +kernel) (by decide +kernel)) (gm 36 (by decide +kernel) (by decide +kernel)) ⟨by decide, by decide, pl_Jx4a65c_elementData_915e3⟩ (enc_ne63 (by decide)) (ct_obj hT rfl (by decide)) rfl ⟨by decide, by decide⟩ (rest := []) rfl (le8 rfl) dJx4a65c_get_915e3_11 (fun v S1 h => ?_) (fun k9 S9 hk h => VX_out C htab hk (h.2 (by omega)))
    replace h := h.1 rfl
    refine V_st (st' := [Value.ref (enc (3 + j) (nt v))]) rfl ?_
    exact V_aret (pc := 14) C hr rfl h dJx4a65c_get_915e3_14
-- GROW
theorem pl_J8_newLength_cabcc : (parseMethodDescriptor yJ8_newLength_cabcc.desc).map (fun d => d.parameters.length) = some 3 := by decide +kernel
theorem pl_J7_copyOf_6403c : (parseMethodDescriptor yJ7_copyOf_6403c.desc).map (fun d => d.parameters.length) = some 3 := by decide +kernel
theorem pl_J7_copyOf_1904c : (parseMethodDescriptor yJ7_copyOf_1904c.desc).map (fun d => d.parameters.length) = some 2 := by decide +kernel
theorem pl_Jx4a65c_grow_92f84 : (parseMethodDescriptor yJx4a65c_grow_92f84.desc).map (fun d => d.parameters.length) = some 1 := by decide +kernel
theorem pl_Jx4a65c_grow_d5877 : (parseMethodDescriptor yJx4a65c_grow_d5877.desc).map (fun d => d.parameters.length) = some 0 := by decide +kernel
theorem pl_Jx4a65c_add_72be8 : (parseMethodDescriptor yJx4a65c_add_72be8.desc).map (fun d => d.parameters.length) = some 3 := by decide +kernel
theorem ct_newLen (hT : xT X = tb1) (hl : l.stackTraces = false) {n : Nat} (hn : 10 ≤ n ∧ n ≤ 460) {S : Sg} (h : Qa 0 (nI (n + n / 2)) S) : CT X k0 l yJ8_newLength_cabcc cJ8_newLength_cabcc 4 (some .int) 2 21 [.int (nI n), .int 1, .int (nI (n / 2))] rvI S Qa :=
  CT_ofV (own := RJ8) (by decide +kernel) (le8 rfl) rfl hl fun p e R s m args below meth c ad0 C hr hnm htab => by
    refine V_iload_n (pc := 0) C dJ8_newLength_cabcc_0 rfl 0 rfl ?_
    refine V_iload_n (pc := 1) C dJ8_newLength_cabcc_1 rfl 1 rfl ?_
    refine V_iload_n (pc := 2) C dJ8_newLength_cabcc_2 rfl 2 rfl ?_
    have h1 : (1 : Int32) < nI (n / 2) := nI_lt (a := 1) (by omega) (by omega)
    refine V_callS (pc := 3) C (ct_J9_max_7cf53 (Qa := fun k v S1 => (k = 0 → v = nI (n / 2) ∧ S1 = S) ∧ (¬ k = 0 → Qa k 0 S1)) hT hl ⟨fun _ => ⟨fun _ => ⟨rfl, rfl⟩, fun q => absurd rfl q⟩, fun q => absurd h1 q⟩) (gm 268 (by decide +kernel) (by decide +kernel)) (gm 269 (by decide +kernel) (by decide +kernel)) (gm 270 (by decide +kernel) (by decide +kernel)) (gm 44 (by decide +kernel) (by decide +kernel)) ⟨by decide, by decide, pl_J9_max_7cf53⟩ ⟨by decide, by decide⟩ (rest := [.int (nI n)]) rfl (le8 rfl) dJ8_newLength_cabcc_3 (fun v S1 h9 => ?_) (fun k9 S9 hk h => VX_out C htab hk (h.2 (by omega)))
    obtain ⟨rfl, rfl⟩ := h9.1 rfl
    refine V_st (st' := [Value.int (nI (n / 2)), Value.int (nI n)]) rfl ?_
    refine V_iadd (pc := 6) C dJ8_newLength_cabcc_6 ?_
    refine V_st (st' := [Value.int (nI (n + n / 2))]) (by rw [nI_add]) ?_
    refine V_istore_n (pc := 7) C dJ8_newLength_cabcc_7 rfl (by decide) rfl ?_
    refine V_iconst (pc := 8) C (v := 0) dJ8_newLength_cabcc_8 rfl ?_
    refine V_iload_n (pc := 9) C dJ8_newLength_cabcc_9 rfl 0 rfl ?_
    refine V_icmp_ge (pc := 10) (tgt := 21) (A := False) (B := True) C dJ8_newLength_cabcc_10 (by decide) ⟨fun q => nI_nle (n := n + n / 2) (by omega) (by omega) q, fun _ => trivial⟩ (fun q => q.elim) (fun _ => ?_)
    refine V_iload_n (pc := 13) C dJ8_newLength_cabcc_13 rfl 0 rfl ?_
    refine V_ldc (v := 2147483639) (pc := 14) C (gm 271 (by decide +kernel) (by decide +kernel)) dJ8_newLength_cabcc_14 ?_
    refine V_icmp_gt (pc := 16) (tgt := 21) (A := False) (B := True) C dJ8_newLength_cabcc_16 (by decide) ⟨fun q => nI_nlt (a := 2147483639) (b := n + n / 2) (by omega) (by decide) q, fun _ => trivial⟩ (fun q => q.elim) (fun _ => ?_)
    refine V_iload_n (pc := 19) C dJ8_newLength_cabcc_19 rfl 0 rfl ?_
    exact V_iret (pc := 20) C hr rfl h dJ8_newLength_cabcc_20
theorem V_aretA {K : KL} {nL fr lo : Nat} {cc : ByteArray} {own : String} {pc : Nat} {lv : List (Nat × Value)} {rv : Int32 → Option Value} {S : Sg} (C : Cn X K p l R s m meth c cc own nL fr lo) {t : FieldType} (hr : meth.sig.returnType = some (.array t)) {v : Int32} {id : Nat} (hrv : rv v = some (.ref id)) (h : Qa 0 v S) (hdg : decode cc pc = .ok (.areturn, 1)) : V X p l e R s m args below meth c nL (QM X below args s S0 ad0 rv Qa) S0 ad0 S pc lv [.ref id] := by
  intro h1 h2 ad H locs ls hE hW hL z1 z2 hl
  obtain ⟨r1, r2⟩ := Wd_room (s := s) hW
  refine W.widen r1 r2 (vx_ret (W.aret (v := .ref (ad id)) C.1 C.2.1 hr (Or.inr ⟨_, rfl⟩) (Or.inr ⟨_, rfl⟩) (fun t ht _ => ⟨v, S, ad, by rw [hrv]; rfl, by rw [ht]; exact hW, hE, fun w hw => ?_, h⟩) hL hdg C.2.2.2.2.2.1))
  rw [hrv] at hw; cases hw; exact h1.1
theorem V_ldcM {K : KL} {nL fr lo : Nat} {cc : ByteArray} {own : String} {pc index : Nat} {lv : List (Nat × Value)} {st : List Value} {Q : State → Prop} {S : Sg} (C : Cn X K p l R s m meth c cc own nL fr lo) (hlink : Cond.classLink own index "[Ljava/lang/Object;" ∈ gW) (hdg : decode cc pc = .ok (.ldc index, 2)) (k : V X p l e R s m args below meth c nL Q S0 ad0 (S) (pc + 2) (lv) (.ref 61 :: st)) : V X p l e R s m args below meth c nL Q S0 ad0 (S) (pc) (lv) (st) := by
  intro h1 h2 ad H locs ls hE hW hL z1 z2 hl
  have kk := k ⟨Or.inl (by decide), h1⟩ h2 ad H locs ls hE hW hL z1 z2 hl
  have e : (Value.ref 61 :: st).map (cv ad) = .ref (xM X) :: st.map (cv ad) := by
    show Value.ref (ad 61) :: _ = _
    rw [hW.2.2.2.2.2.2.2.2.2.2.2.2]
  rw [e] at kk
  have KKs := C.2.2.2.2.1
  obtain ⟨-, -, -, -, -, -, -, -, -, -, -, -, hM, -⟩ := And.intro KKs.1 KKs.2
  exact va_ldcM C.1 C.2.1 C.2.2.2.1 (KK.w KKs hlink args) hM hdg kk
theorem V_getC {K : KL} {nL fr lo : Nat} {cc : ByteArray} {own : String} {pc index : Nat} {lv : List (Nat × Value)} {st : List Value} {Q : State → Prop} {S : Sg} {a : Nat} (C : Cn X K p l R s m meth c cc own nL fr lo) (hT : xT X = tb1) (w1 : Cond.methodLink own index ⟨"java/lang/Object", "getClass", "()Ljava/lang/Class;"⟩ ∈ gW) (w2 : Cond.selects "[Ljava/lang/Object;" ⟨"java/lang/Object", "getClass", "()Ljava/lang/Class;"⟩ ⟨"java/lang/Object", "getClass", "()Ljava/lang/Class;"⟩ ∈ gW) (w3 : Cond.instanceMethod ⟨"java/lang/Object", "getClass", "()Ljava/lang/Class;"⟩ ∈ gW) (w4 : Cond.native ⟨"java/lang/Object", "getClass", "()Ljava/lang/Class;"⟩ ∈ gW)
    (hR : 1 ≤ fr ∧ (st.map fun v => v.category).sum + 14 ≤ lo) (hdg : decode cc pc = .ok (.invokevirtual index, 3)) (k : V X p l e R s m args below meth c nL Q S0 ad0 (S) (pc + 3) (lv) (.ref 61 :: st)) : V X p l e R s m args below meth c nL Q S0 ad0 (S) (pc) (lv) (.ref (enc 2 a) :: st) := by
  intro h1 h2 ad H locs ls hE hW hL z1 z2 hl
  have kk := k ⟨Or.inl (by decide), h1.2⟩ h2 ad H locs ls hE hW hL z1 z2 hl
  have e : (Value.ref 61 :: st).map (cv ad) = .ref (xM X) :: st.map (cv ad) := by
    show Value.ref (ad 61) :: _ = _
    rw [hW.2.2.2.2.2.2.2.2.2.2.2.2]
  rw [e] at kk
  have KKs := C.2.2.2.2.1
  obtain ⟨-, -, -, -, -, -, -, -, -, -, -, -, hM, hD, -⟩ := And.intro KKs.1 KKs.2
  obtain ⟨-, -, -, -, -, -, cf, cl, -⟩ := And.intro C.1 C.2
  have hd := okv_dm h1.1 (enc_ne63 (by decide))
  have hce : H[ad (enc 2 a)]? = some (vp_cell (xO X) (QA (nt (S.1 14 a)) (fun t => (if t < nt (S.1 17 a) then some (enc (3 + nt (S.1 16 a)) t) else none).map ad))) := Wd_at hW hd (ct_q hT tb1_arr) 0 _ rfl
  exact va_getC C.1 C.2.1 (C.2.2.1.trans hl.1.symm) C.2.2.2.1 (KK.w KKs w1 args) (va_Dc.use hD) (KK.w KKs w2 args) (KK.w KKs w3 args) (KK.w KKs w4 args) hM ⟨_, hce, rfl, va_nmO (KKs.1.2 3 _ rfl).2 (by decide +kernel)⟩ (by rw [cf]; exact hR.1) (by rw [cl, cv_sum]; exact hR.2) hdg kk
theorem elemC {j : Nat} (hj : j < 6) : ∃ (ci N : Nat) (fds : List Fd3) (Ce : String) (T : u_T), tb1.lookup (3 + j) = some (ci, fds) ∧ vwCl[ci]? = some (Ce, T, N) ∧ (Ce, "java/lang/Object") ∈ k0.1 := by
  match j, hj with
  | 0, _ => exact ⟨2, 5, fdHall, RX1, TX1, rfl, rfl, by decide +kernel⟩
  | 1, _ => exact ⟨1, 9, fdFilm, RX0, TX0, rfl, rfl, by decide +kernel⟩
  | 2, _ => exact ⟨4, 4, fdKey, RX3, TX3, rfl, rfl, by decide +kernel⟩
  | 3, _ => exact ⟨6, 8, fdShow, RX5, TX5, rfl, rfl, by decide +kernel⟩
  | 4, _ => exact ⟨3, 4, fdHold, RX2, TX2, rfl, rfl, by decide +kernel⟩
  | 5, _ => exact ⟨7, 5, fdTicket, RX6, TX6, rfl, rfl, by decide +kernel⟩
def rowP (j a : Nat) (S : Sg) : Prop := nt (S.1 16 a) = j ∧ nt (S.1 17 a) ≤ nt (S.1 14 a) ∧ ¬ S.1 14 a < 0 ∧ a < nt (S.1 10 2)
theorem nlt_of {x y : Int32} (hx : ¬ x < 0) (hy : ¬ y < 0) (h : nt x ≤ nt y) : ¬ y < x := by
  intro q
  have := nt_mono hy q
  omega
theorem ct_copy3 (hT : xT X = tb1) (hl : l.stackTraces = false) {j a : Nat} {x : Int32} {S : Sg} (hj : j < 6) (hp : rowP j a S) (hx : ¬ x < 0 ∧ nt x ≤ 65536 ∧ nt (S.1 14 a) ≤ nt x ∧ S.2.1 + 1 ≤ nB1 ∧ S.2.2 + nt x ≤ nB2) (h : Qa 0 (S.1 10 2) (su (nrw S j x) 17 (nt (S.1 10 2)) (S.1 17 a))) : CT X k0 l yJ7_copyOf_6403c cJ7_copyOf_6403c 4 (some (.array (.object "java/lang/Object"))) 2 45 [.ref (enc 2 a), .int x, .ref 61] (rvR 2) S Qa :=
  CT_ofV (own := RJ7) (by decide +kernel) (le8 rfl) rfl hl fun p e R s m args below meth c ad0 C hr hnm htab => by
    obtain ⟨p1, p2, p3, p4⟩ := hp
    obtain ⟨x1, x2, x3, x4, x5⟩ := hx
    obtain ⟨ci, N, fds, Ce, T, hlk, hci, hca⟩ := elemC hj
    have hab : a ≠ nt (S.1 10 2) := by omega
    have e14 : (nrw S j x).1 14 a = S.1 14 a := nrw_ne (by decide) (Or.inr hab)
    have e16 : (nrw S j x).1 16 a = S.1 16 a := nrw_ne (by decide) (Or.inr hab)
    have e17 : (nrw S j x).1 17 a = S.1 17 a := nrw_ne (by decide) (Or.inr hab)
    refine V_aload_n (pc := 0) C dJ7_copyOf_6403c_0 rfl 2 rfl ?_
    refine V_ldcM (pc := 1) C (gm 297 (by decide +kernel) (by decide +kernel)) dJ7_copyOf_6403c_1 ?_
    refine V_acmp_neS (pc := 3) (tgt := 13) C dJ7_copyOf_6403c_3 (by decide) ?_
    refine V_iload_n (pc := 6) C dJ7_copyOf_6403c_6 rfl 1 rfl ?_
    refine V_newrw (pc := 7) C hT tb1_g j (gm 299 (by decide +kernel) (by decide +kernel)) dJ7_copyOf_6403c_7 (A := True) ⟨⟨x1, x2, x4, x5⟩, trivial⟩ (fun _ => ?_)
    refine V_goto (pc := 10) (tgt := 24) C dJ7_copyOf_6403c_10 (by decide) ?_
    refine V_astore_n (pc := 24) C dJ7_copyOf_6403c_24 rfl (by decide) rfl ?_
    refine V_aload_n (pc := 25) C dJ7_copyOf_6403c_25 rfl 1 rfl ?_
    refine V_iconst (pc := 26) C (v := 0) dJ7_copyOf_6403c_26 rfl ?_
    refine V_aload_n (pc := 27) C dJ7_copyOf_6403c_27 rfl 0 rfl ?_
    refine V_iconst (pc := 28) C (v := 0) dJ7_copyOf_6403c_28 rfl ?_
    refine V_aload_n (pc := 29) C dJ7_copyOf_6403c_29 rfl 1 rfl ?_
    refine V_qlen (pc := 30) C hT tb1_arr (by rw [e14]; exact p3) dJ7_copyOf_6403c_30 ?_
    refine V_iload_n (pc := 31) C dJ7_copyOf_6403c_31 rfl 2 rfl ?_
    refine V_callS (pc := 32) C (ct_J9_min_7cf53 (a0 := (nrw S j x).1 14 a) (a1 := x) (S := nrw S j x) (Qa := fun k v S1 => (k = 0 → v = S.1 14 a ∧ S1 = nrw S j x) ∧ (¬ k = 0 → Qa k 0 S1)) hT hl ⟨fun q => absurd q (by rw [e14]; exact nlt_of p3 x1 x3), fun _ => ⟨fun _ => ⟨e14, rfl⟩, fun q => absurd rfl q⟩⟩) (gm 300 (by decide +kernel) (by decide +kernel)) (gm 301 (by decide +kernel) (by decide +kernel)) (gm 302 (by decide +kernel) (by decide +kernel)) (gm 44 (by decide +kernel) (by decide +kernel)) ⟨by decide, by decide, pl_J9_min_7cf53⟩ ⟨by decide, by decide⟩ (rest := [.int 0, .ref (enc 2 (nt (S.1 10 2))), .int 0, .ref (enc 2 a)]) rfl (le8 rfl) dJ7_copyOf_6403c_32 (fun v S1 h9 => ?_) (fun k9 S9 hk h => VX_out C htab hk (h.2 (by omega)))
    obtain ⟨rfl, rfl⟩ := h9.1 rfl
    refine V_st (st' := [Value.int (S.1 14 a), .int 0, .ref (enc 2 (nt (S.1 10 2))), .int 0, .ref (enc 2 a)]) rfl ?_
    refine V_acopy (pc := 35) C hT tb1_arr hab (by rw [e14, e17, nrw_14]; exact ⟨p3, rfl, x3, p2⟩) nrw_17 (by rw [e16, nrw_16]; exact ⟨p1, nt_nI (by omega)⟩) (by omega) hlk hci hca (gm 303 (by decide +kernel) (by decide +kernel)) (gm 305 (by decide +kernel) (by decide +kernel)) (gm 304 (by decide +kernel) (by decide +kernel)) (gm 46 (by decide +kernel) (by decide +kernel)) ⟨by decide, le8 rfl⟩ dJ7_copyOf_6403c_35 ?_
    rw [e17]
    refine V_aload_n (pc := 38) C dJ7_copyOf_6403c_38 rfl 0 rfl ?_
    exact V_aretA (pc := 39) C hr rfl h dJ7_copyOf_6403c_39
theorem ct_copy2 (hT : xT X = tb1) (hl : l.stackTraces = false) {j a : Nat} {x : Int32} {S : Sg} (hj : j < 6) (hp : rowP j a S) (hx : ¬ x < 0 ∧ nt x ≤ 65536 ∧ nt (S.1 14 a) ≤ nt x ∧ S.2.1 + 1 ≤ nB1 ∧ S.2.2 + nt x ≤ nB2) (h : Qa 0 (S.1 10 2) (su (nrw S j x) 17 (nt (S.1 10 2)) (S.1 17 a))) : CT X k0 l yJ7_copyOf_1904c cJ7_copyOf_1904c 2 (some (.array (.object "java/lang/Object"))) 3 68 [.ref (enc 2 a), .int x] (rvR 2) S Qa :=
  CT_ofV (own := RJ7) (by decide +kernel) (le8 rfl) rfl hl fun p e R s m args below meth c ad0 C hr hnm htab => by
    refine V_aload_n (pc := 0) C dJ7_copyOf_1904c_0 rfl 0 rfl ?_
    refine V_iload_n (pc := 1) C dJ7_copyOf_1904c_1 rfl 1 rfl ?_
    refine V_aload_n (pc := 2) C dJ7_copyOf_1904c_2 rfl 0 rfl ?_
    refine V_getC (pc := 3) C hT (gm 278 (by decide +kernel) (by decide +kernel)) (gm 922 (by decide +kernel) (by decide +kernel)) (gm 279 (by decide +kernel) (by decide +kernel)) (gm 293 (by decide +kernel) (by decide +kernel)) ⟨by decide, le8 rfl⟩ dJ7_copyOf_1904c_3 ?_
    refine V_callS (pc := 6) C (ct_copy3 (Qa := fun k v S1 => (k = 0 → Qa 0 v S1) ∧ (¬ k = 0 → Qa k 0 S1)) hT hl hj hp hx ⟨fun _ => h, fun q => absurd rfl q⟩) (gm 294 (by decide +kernel) (by decide +kernel)) (gm 295 (by decide +kernel) (by decide +kernel)) (gm 296 (by decide +kernel) (by decide +kernel)) (gm 45 (by decide +kernel) (by decide +kernel)) ⟨by decide, by decide, pl_J7_copyOf_6403c⟩ ⟨by decide, by decide⟩ (rest := []) rfl (le8 rfl) dJ7_copyOf_1904c_6 (fun v S1 h9 => ?_) (fun k9 S9 hk h => VX_out C htab hk (h.2 (by omega)))
    replace h9 := h9.1 rfl
    refine V_st (st' := [Value.ref (enc 2 (nt v))]) rfl ?_
    exact V_aretA (pc := 9) C hr rfl h9 dJ7_copyOf_1904c_9
theorem V_putRow {K : KL} {nL fr lo : Nat} {cc : ByteArray} {own : String} {pc index : Nat} {lv : List (Nat × Value)} {st : List Value} {Q : State → Prop} {S : Sg} (C : Cn X K p l R s m meth c cc own nL fr lo) (hT : xT X = tb1) {j : Nat} {v : Int32} (hv : ¬ v < 0) (hli : LI S → LI (su S 13 j v)) (hlink : Cond.fieldLink own index RJx4a65c (TJx4a65c 1).2.1 (TJx4a65c 1).2.2.1 ∈ gW) (hdg : decode cc pc = .ok (.putfield index, 3)) (k : V X p l e R s m args below meth c nL Q S0 ad0 (su S 13 j v) (pc + 3) (lv) (st)) : V X p l e R s m args below meth c nL Q S0 ad0 (S) (pc) (lv) (.ref (enc 2 (nt v)) :: .ref (enc 1 j) :: st) := by
  intro h1
  have hdm := okv_dm h1.1 (enc_ne63 (by decide))
  refine V_putD C hT tb1_ok f1_Jx4a65c_1 (Or.inr rfl) ⟨by decide, by decide, by decide⟩ hlink (Or.inl rfl) hli (v := .ref (enc 2 (nt v))) ?_ (Or.inr hdm) (fun ad => rfl) (fun ad => rfl) hdg k h1
  show rf ((su S 13 j v).1 13 j) 2 = _
  rw [su_at, rf_pos hv]
theorem LI_row {S : Sg} {j : Nat} {v : Int32} (hv : ¬ v < 0 ∧ nt v < nt (S.1 10 2) ∧ S.1 16 (nt v) = nI j ∧ j < 6 ∧ ¬ S.1 12 j < 0 ∧ nt (S.1 12 j) ≤ nt (S.1 17 (nt v)) ∧ nt (S.1 17 (nt v)) ≤ nt (S.1 14 (nt v)) ∧ 10 ≤ nt (S.1 14 (nt v))) (h : LI S) : LI (su S 13 j v) := by
  refine ⟨fun k => by rw [su_ne (Or.inl (by decide))]; exact h.1 k, fun i => ?_⟩
  by_cases hi : i = j
  · right
    rw [hi, su_at, su_ne (c' := 10) (Or.inl (by decide)), su_ne (c' := 12) (Or.inl (by decide)), su_ne (c' := 16) (Or.inl (by decide)), su_ne (c' := 17) (Or.inl (by decide)), su_ne (c' := 14) (Or.inl (by decide))]
    exact hv
  · rw [su_ne (c' := 13) (Or.inr hi), su_ne (c' := 10) (Or.inl (by decide)), su_ne (c' := 12) (Or.inl (by decide)), su_ne (c' := 16) (Or.inl (by decide)), su_ne (c' := 17) (Or.inl (by decide)), su_ne (c' := 14) (Or.inl (by decide))]
    exact h.2 i
theorem ct_growE (hT : xT X = tb1) (hl : l.stackTraces = false) {j : Nat} {S : Sg} (hj : j < 6) (h13 : S.1 13 j = nE) (h12 : S.1 12 j = 0) (hb : S.2.1 + 1 ≤ nB1 ∧ S.2.2 + 10 ≤ nB2) (h : Qa 0 (S.1 10 2) (su (nrw S j 10) 13 j (S.1 10 2))) : CT X k0 l yJx4a65c_grow_92f84 cJx4a65c_grow_92f84 4 (some (.array (.object "java/lang/Object"))) 4 89 [.ref (enc 1 j), .int 1] (rvR 2) S Qa :=
  CT_ofV (own := RJx4a65c) (by decide +kernel) (le8 rfl) rfl hl fun p e R s m args below meth c ad0 C hr hnm htab => by
    have hdv : dv S j (2, 13, 2) = .ref 62 := by
      show rf (S.1 13 j) 2 = _
      rw [h13, rf_nE]
    refine V_LI C fun hli => ?_
    have hc := hli.1 2
    have hs := nt_succ hc.1 (by have := hc.2; have := hb.1; unfold nB1 at this; omega)
    refine V_aload_n (pc := 0) C dJx4a65c_grow_92f84_0 rfl 0 rfl ?_
    refine V_getD (pc := 1) C hT f1_Jx4a65c_1 (gm 78 (by decide +kernel) (by decide +kernel)) dJx4a65c_grow_92f84_1 (by rw [hdv]; exact Or.inl (by decide)) ?_
    rw [hdv]
    refine V_elen (pc := 4) C dJx4a65c_grow_92f84_4 ?_
    refine V_istore_n (pc := 5) C dJx4a65c_grow_92f84_5 rfl (by decide) rfl ?_
    refine V_iload_n (pc := 6) C dJx4a65c_grow_92f84_6 rfl 0 rfl ?_
    refine V_if_gt (pc := 7) (tgt := 20) (A := False) (B := True) C dJx4a65c_grow_92f84_7 (by decide) ⟨fun q => absurd q (by decide), fun _ => trivial⟩ (fun q => q.elim) (fun _ => ?_)
    refine V_aload_n (pc := 10) C dJx4a65c_grow_92f84_10 rfl 1 rfl ?_
    refine V_getD (pc := 11) C hT f1_Jx4a65c_1 (gm 78 (by decide +kernel) (by decide +kernel)) dJx4a65c_grow_92f84_11 (by rw [hdv]; exact Or.inl (by decide)) ?_
    rw [hdv]
    refine V_empty (pc := 14) C (gm 76 (by decide +kernel) (by decide +kernel)) dJx4a65c_grow_92f84_14 ?_
    refine V_acmp_eqS (pc := 17) (tgt := 45) C dJx4a65c_grow_92f84_17 (by decide) ?_
    refine V_aload_n (pc := 45) C dJx4a65c_grow_92f84_45 rfl 1 rfl ?_
    refine V_bipush (pc := 46) C (v := 10) dJx4a65c_grow_92f84_46 rfl ?_
    refine V_iload_n (pc := 48) C dJx4a65c_grow_92f84_48 rfl 2 rfl ?_
    refine V_callS (pc := 49) C (ct_J9_max_7cf53 (Qa := fun k v S1 => (k = 0 → v = 10 ∧ S1 = S) ∧ (¬ k = 0 → Qa k 0 S1)) hT hl ⟨fun q => absurd q (by decide), fun _ => ⟨fun _ => ⟨rfl, rfl⟩, fun q => absurd rfl q⟩⟩) (gm 306 (by decide +kernel) (by decide +kernel)) (gm 269 (by decide +kernel) (by decide +kernel)) (gm 270 (by decide +kernel) (by decide +kernel)) (gm 44 (by decide +kernel) (by decide +kernel)) ⟨by decide, by decide, pl_J9_max_7cf53⟩ ⟨by decide, by decide⟩ (rest := [.ref (enc 1 j)]) rfl (le8 rfl) dJx4a65c_grow_92f84_49 (fun v S1 h9 => ?_) (fun k9 S9 hk h => VX_out C htab hk (h.2 (by omega)))
    obtain ⟨rfl, rfl⟩ := h9.1 rfl
    refine V_st (st' := [Value.int 10, .ref (enc 1 j)]) rfl ?_
    refine V_newrw (pc := 52) C hT tb1_g j (gm 307 (by decide +kernel) (by decide +kernel)) dJx4a65c_grow_92f84_52 (A := True) ⟨⟨by decide, by decide, hb.1, hb.2⟩, trivial⟩ (fun _ => ?_)
    refine V_dup_x1 (pc := 55) C dJx4a65c_grow_92f84_55 rfl rfl ?_
    refine V_putRow (pc := 56) C hT hc.1 (LI_row ⟨hc.1, by show _ < nt (S1.1 10 2 + 1); omega, nrw_16, hj, ?_, ?_, ?_, ?_⟩) (gm 78 (by decide +kernel) (by decide +kernel)) dJx4a65c_grow_92f84_56 ?_
    · rw [nrw_ne (by decide) (Or.inl (by decide)), h12]; decide
    · rw [nrw_ne (c := 12) (by decide) (Or.inl (by decide)), h12]; exact Nat.zero_le _
    · rw [nrw_17, nrw_14]; decide
    · rw [nrw_14]; decide
    · exact V_aretA (pc := 59) C hr rfl h dJx4a65c_grow_92f84_59
theorem ct_growR (hT : xT X = tb1) (hl : l.stackTraces = false) {j n : Nat} {S : Sg} (hj : j < 6) (hn : 10 ≤ n ∧ n ≤ 460) (h13 : ¬ S.1 13 j < 0) (h14 : S.1 14 (nt (S.1 13 j)) = nI n) (h12 : S.1 12 j = nI n) (hb : S.2.1 + 1 ≤ nB1 ∧ S.2.2 + (n + n / 2) ≤ nB2) (h : Qa 0 (S.1 10 2) (su (su (nrw S j (nI (n + n / 2))) 17 (nt (S.1 10 2)) (S.1 17 (nt (S.1 13 j)))) 13 j (S.1 10 2))) : CT X k0 l yJx4a65c_grow_92f84 cJx4a65c_grow_92f84 4 (some (.array (.object "java/lang/Object"))) 4 89 [.ref (enc 1 j), .int (nI (n + 1))] (rvR 2) S Qa :=
  CT_ofV (own := RJx4a65c) (by decide +kernel) (le8 rfl) rfl hl fun p e R s m args below meth c ad0 C hr hnm htab => by
    refine V_LI C fun hli => ?_
    have hc := hli.1 2
    have hs := nt_succ hc.1 (by have := hc.2; have := hb.1; unfold nB1 at this; omega)
    obtain ⟨q1, q2, q3, q4, q5, q6, q7, q8⟩ : ¬ S.1 13 j < 0 ∧ nt (S.1 13 j) < nt (S.1 10 2) ∧ S.1 16 (nt (S.1 13 j)) = nI j ∧ j < 6 ∧ ¬ S.1 12 j < 0 ∧ nt (S.1 12 j) ≤ nt (S.1 17 (nt (S.1 13 j))) ∧ nt (S.1 17 (nt (S.1 13 j))) ≤ nt (S.1 14 (nt (S.1 13 j))) ∧ 10 ≤ nt (S.1 14 (nt (S.1 13 j))) := (hli.2 j).elim (fun q => absurd q.1 h13) (fun q => q)
    have en : nt (nI n) = n := nt_nI (by omega)
    have en2 : nt (nI (n + n / 2)) = n + n / 2 := nt_nI (by omega)
    have hne : nt (S.1 13 j) ≠ nt (S.1 10 2) := by omega
    refine V_aload_n (pc := 0) C dJx4a65c_grow_92f84_0 rfl 0 rfl ?_
    refine V_getR (pc := 1) C hT f1_Jx4a65c_1 (by decide) (gm 78 (by decide +kernel) (by decide +kernel)) dJx4a65c_grow_92f84_1 (A := True) ⟨h13, trivial⟩ (fun _ => ?_)
    refine V_qlen (pc := 4) C hT tb1_arr (by rw [h14]; exact nI_pos (by omega)) dJx4a65c_grow_92f84_4 ?_
    rw [h14]
    refine V_istore_n (pc := 5) C dJx4a65c_grow_92f84_5 rfl (by decide) rfl ?_
    refine V_iload_n (pc := 6) C dJx4a65c_grow_92f84_6 rfl 0 rfl ?_
    refine V_if_gt (pc := 7) (tgt := 20) (A := True) (B := False) C dJx4a65c_grow_92f84_7 (by decide) ⟨fun _ => trivial, fun q => q (nI_lt (a := 0) (by omega) (by omega))⟩ (fun _ => ?_) (fun q => q.elim)
    refine V_iload_n (pc := 20) C dJx4a65c_grow_92f84_20 rfl 0 rfl ?_
    refine V_iload_n (pc := 21) C dJx4a65c_grow_92f84_21 rfl 2 rfl ?_
    refine V_iload_n (pc := 22) C dJx4a65c_grow_92f84_22 rfl 0 rfl ?_
    refine V_isub (pc := 23) C dJx4a65c_grow_92f84_23 ?_
    refine V_iload_n (pc := 24) C dJx4a65c_grow_92f84_24 rfl 0 rfl ?_
    refine V_iconst (pc := 25) C (v := 1) dJx4a65c_grow_92f84_25 rfl ?_
    refine V_ishr (pc := 26) C dJx4a65c_grow_92f84_26 ?_
    have e1 : nI (n + 1) - nI n = 1 := by
      rw [pk_sub (by omega), Nat.add_sub_cancel_left]; rfl
    have e2 : nI n >>> ((1 : Int32) &&& 31) = nI (n / 2) := by
      have k := pk_shrN (n := n) (by omega) ((1 : Int32) &&& 31) 1 (by decide)
      rw [Nat.pow_one] at k
      exact k
    refine V_st (st' := [Value.int (nI (n / 2)), .int 1, .int (nI n)]) (by rw [e1, e2]) ?_
    refine V_callS (pc := 27) C (ct_newLen (Qa := fun k v S1 => (k = 0 → v = nI (n + n / 2) ∧ S1 = S) ∧ (¬ k = 0 → Qa k 0 S1)) hT hl hn ⟨fun _ => ⟨rfl, rfl⟩, fun q => absurd rfl q⟩) (gm 265 (by decide +kernel) (by decide +kernel)) (gm 266 (by decide +kernel) (by decide +kernel)) (gm 267 (by decide +kernel) (by decide +kernel)) (gm 43 (by decide +kernel) (by decide +kernel)) ⟨by decide, by decide, pl_J8_newLength_cabcc⟩ ⟨by decide, by decide⟩ (rest := []) rfl (le8 rfl) dJx4a65c_grow_92f84_27 (fun v S1 h9 => ?_) (fun k9 S9 hk h => VX_out C htab hk (h.2 (by omega)))
    obtain ⟨rfl, rfl⟩ := h9.1 rfl
    refine V_st (st' := [Value.int (nI (n + n / 2))]) rfl ?_
    refine V_istore_n (pc := 30) C dJx4a65c_grow_92f84_30 rfl (by decide) rfl ?_
    refine V_aload_n (pc := 31) C dJx4a65c_grow_92f84_31 rfl 2 rfl ?_
    refine V_aload_n (pc := 32) C dJx4a65c_grow_92f84_32 rfl 2 rfl ?_
    refine V_getR (pc := 33) C hT f1_Jx4a65c_1 (by decide) (gm 78 (by decide +kernel) (by decide +kernel)) dJx4a65c_grow_92f84_33 (A := True) ⟨h13, trivial⟩ (fun _ => ?_)
    refine V_iload_n (pc := 36) C dJx4a65c_grow_92f84_36 rfl 0 rfl ?_
    refine V_callS (pc := 37) C (ct_copy2 (a := nt (S1.1 13 j)) (x := nI (n + n / 2)) (Qa := fun k v S' => (k = 0 → v = S1.1 10 2 ∧ S' = su (nrw S1 j (nI (n + n / 2))) 17 (nt (S1.1 10 2)) (S1.1 17 (nt (S1.1 13 j)))) ∧ (¬ k = 0 → Qa k 0 S')) hT hl hj ⟨by rw [q3, nt_nI (by omega)], q7, by rw [h14]; exact nI_pos (by omega), q2⟩ ⟨nI_pos (by omega), by rw [en2]; omega, by rw [h14, en, en2]; omega, hb.1, by rw [en2]; exact hb.2⟩ ⟨fun _ => ⟨rfl, rfl⟩, fun q => absurd rfl q⟩) (gm 275 (by decide +kernel) (by decide +kernel)) (gm 276 (by decide +kernel) (by decide +kernel)) (gm 277 (by decide +kernel) (by decide +kernel)) (gm 45 (by decide +kernel) (by decide +kernel)) ⟨by decide, by decide, pl_J7_copyOf_1904c⟩ ⟨by decide, by decide⟩ (rest := [.ref (enc 1 j)]) rfl (le8 rfl) dJx4a65c_grow_92f84_37 (fun v S2 h9 => ?_) (fun k9 S9 hk h => VX_out C htab hk (h.2 (by omega)))
    obtain ⟨rfl, rfl⟩ := h9.1 rfl
    refine V_st (st' := [Value.ref (enc 2 (nt (S1.1 10 2))), .ref (enc 1 j)]) rfl ?_
    refine V_dup_x1 (pc := 40) C dJx4a65c_grow_92f84_40 rfl rfl ?_
    refine V_putRow (pc := 41) C hT hc.1 (LI_row ⟨hc.1, ?_, ?_, hj, ?_, ?_, ?_, ?_⟩) (gm 78 (by decide +kernel) (by decide +kernel)) dJx4a65c_grow_92f84_41 ?_
    · rw [su_ne (Or.inl (by decide))]; show _ < nt (S1.1 10 2 + 1); omega
    · rw [su_ne (Or.inl (by decide)), nrw_16]
    · rw [su_ne (Or.inl (by decide)), nrw_ne (by decide) (Or.inl (by decide))]; exact q5
    · rw [su_ne (c' := 12) (Or.inl (by decide)), nrw_ne (by decide) (Or.inl (by decide)), su_at]; exact q6
    · rw [su_at, su_ne (c' := 14) (Or.inl (by decide)), nrw_14, en2]; rw [h14, en] at q7; omega
    · rw [su_ne (c' := 14) (Or.inl (by decide)), nrw_14, en2]; omega
    · exact V_aretA (pc := 44) C hr rfl h dJx4a65c_grow_92f84_44
theorem ct_grow0E (hT : xT X = tb1) (hl : l.stackTraces = false) {j : Nat} {S : Sg} (hj : j < 6) (h13 : S.1 13 j = nE) (h12 : S.1 12 j = 0) (hb : S.2.1 + 1 ≤ nB1 ∧ S.2.2 + 10 ≤ nB2) (h : Qa 0 (S.1 10 2) (su (nrw S j 10) 13 j (S.1 10 2))) : CT X k0 l yJx4a65c_grow_d5877 cJx4a65c_grow_d5877 1 (some (.array (.object "java/lang/Object"))) 5 112 [.ref (enc 1 j)] (rvR 2) S Qa :=
  CT_ofV (own := RJx4a65c) (by decide +kernel) (le8 rfl) rfl hl fun p e R s m args below meth c ad0 C hr hnm htab => by
    refine V_aload_n (pc := 0) C dJx4a65c_grow_d5877_0 rfl 0 rfl ?_
    refine V_aload_n (pc := 1) C dJx4a65c_grow_d5877_1 rfl 0 rfl ?_
    refine V_getI (pc := 2) C hT f1_Jx4a65c_2 (gm 79 (by decide +kernel) (by decide +kernel)) dJx4a65c_grow_d5877_2 ?_
    refine V_iconst (pc := 5) C (v := 1) dJx4a65c_grow_d5877_5 rfl ?_
    refine V_iadd (pc := 6) C dJx4a65c_grow_d5877_6 ?_
    refine V_st (st' := [Value.int 1, .ref (enc 1 j)]) (by rw [h12]; rfl) ?_
    refine V_callV (pc := 7) C (ct_growE (Qa := fun k v S1 => (k = 0 → Qa 0 v S1) ∧ (¬ k = 0 → Qa k 0 S1)) hT hl hj h13 h12 hb ⟨fun _ => h, fun q => absurd rfl q⟩) (gm 261 (by decide +kernel) (by decide +kernel)) (gm 263 (by decide +kernel) (by decide +kernel)) (gm 3 (by decide +kernel) (by decide +kernel)) (gm 264 (by decide +kernel) (by decide +kernel)) (gm 36 (by decide +kernel) (by decide +kernel)) ⟨by decide, by decide, pl_Jx4a65c_grow_92f84⟩ (enc_ne63 (by decide)) (ct_obj hT rfl (by decide)) rfl ⟨by decide, by decide⟩ (rest := []) rfl (le8 rfl) dJx4a65c_grow_d5877_7 (fun v S1 h9 => ?_) (fun k9 S9 hk h => VX_out C htab hk (h.2 (by omega)))
    replace h9 := h9.1 rfl
    refine V_st (st' := [Value.ref (enc 2 (nt v))]) rfl ?_
    exact V_aretA (pc := 10) C hr rfl h9 dJx4a65c_grow_d5877_10
theorem ct_grow0R (hT : xT X = tb1) (hl : l.stackTraces = false) {j n : Nat} {S : Sg} (hj : j < 6) (hn : 10 ≤ n ∧ n ≤ 460) (h13 : ¬ S.1 13 j < 0) (h14 : S.1 14 (nt (S.1 13 j)) = nI n) (h12 : S.1 12 j = nI n) (hb : S.2.1 + 1 ≤ nB1 ∧ S.2.2 + (n + n / 2) ≤ nB2) (h : Qa 0 (S.1 10 2) (su (su (nrw S j (nI (n + n / 2))) 17 (nt (S.1 10 2)) (S.1 17 (nt (S.1 13 j)))) 13 j (S.1 10 2))) : CT X k0 l yJx4a65c_grow_d5877 cJx4a65c_grow_d5877 1 (some (.array (.object "java/lang/Object"))) 5 112 [.ref (enc 1 j)] (rvR 2) S Qa :=
  CT_ofV (own := RJx4a65c) (by decide +kernel) (le8 rfl) rfl hl fun p e R s m args below meth c ad0 C hr hnm htab => by
    refine V_aload_n (pc := 0) C dJx4a65c_grow_d5877_0 rfl 0 rfl ?_
    refine V_aload_n (pc := 1) C dJx4a65c_grow_d5877_1 rfl 0 rfl ?_
    refine V_getI (pc := 2) C hT f1_Jx4a65c_2 (gm 79 (by decide +kernel) (by decide +kernel)) dJx4a65c_grow_d5877_2 ?_
    refine V_iconst (pc := 5) C (v := 1) dJx4a65c_grow_d5877_5 rfl ?_
    refine V_iadd (pc := 6) C dJx4a65c_grow_d5877_6 ?_
    refine V_st (st' := [Value.int (nI (n + 1)), .ref (enc 1 j)]) (by rw [h12, nI_1]) ?_
    refine V_callV (pc := 7) C (ct_growR (Qa := fun k v S1 => (k = 0 → Qa 0 v S1) ∧ (¬ k = 0 → Qa k 0 S1)) hT hl hj hn h13 h14 h12 hb ⟨fun _ => h, fun q => absurd rfl q⟩) (gm 261 (by decide +kernel) (by decide +kernel)) (gm 263 (by decide +kernel) (by decide +kernel)) (gm 3 (by decide +kernel) (by decide +kernel)) (gm 264 (by decide +kernel) (by decide +kernel)) (gm 36 (by decide +kernel) (by decide +kernel)) ⟨by decide, by decide, pl_Jx4a65c_grow_92f84⟩ (enc_ne63 (by decide)) (ct_obj hT rfl (by decide)) rfl ⟨by decide, by decide⟩ (rest := []) rfl (le8 rfl) dJx4a65c_grow_d5877_7 (fun v S1 h9 => ?_) (fun k9 S9 hk h => VX_out C htab hk (h.2 (by omega)))
    replace h9 := h9.1 rfl
    refine V_st (st' := [Value.ref (enc 2 (nt v))]) rfl ?_
    exact V_aretA (pc := 10) C hr rfl h9 dJx4a65c_grow_d5877_10
theorem LI_size {S : Sg} {j : Nat} {v : Int32} (h13 : ¬ S.1 13 j < 0) (hv : ¬ v < 0) (h17 : nt v ≤ nt (S.1 17 (nt (S.1 13 j)))) (h : LI S) : LI (su S 12 j v) := by
  refine ⟨fun k => by rw [su_ne (Or.inl (by decide))]; exact h.1 k, fun i => ?_⟩
  by_cases hi : i = j
  · right
    obtain ⟨q1, q2, q3, q4, q5, q6, q7, q8⟩ : ¬ S.1 13 j < 0 ∧ nt (S.1 13 j) < nt (S.1 10 2) ∧ S.1 16 (nt (S.1 13 j)) = nI j ∧ j < 6 ∧ ¬ S.1 12 j < 0 ∧ nt (S.1 12 j) ≤ nt (S.1 17 (nt (S.1 13 j))) ∧ nt (S.1 17 (nt (S.1 13 j))) ≤ nt (S.1 14 (nt (S.1 13 j))) ∧ 10 ≤ nt (S.1 14 (nt (S.1 13 j))) := (h.2 j).elim (fun q => absurd q.1 h13) (fun q => q)
    rw [hi, su_at, su_ne (c' := 13) (Or.inl (by decide)), su_ne (c' := 10) (Or.inl (by decide)), su_ne (c' := 16) (Or.inl (by decide)), su_ne (c' := 17) (Or.inl (by decide)), su_ne (c' := 14) (Or.inl (by decide))]
    exact ⟨q1, q2, q3, q4, hv, h17, q7, q8⟩
  · rw [su_ne (c' := 12) (Or.inr hi), su_ne (c' := 13) (Or.inl (by decide)), su_ne (c' := 10) (Or.inl (by decide)), su_ne (c' := 16) (Or.inl (by decide)), su_ne (c' := 17) (Or.inl (by decide)), su_ne (c' := 14) (Or.inl (by decide))]
    exact h.2 i
def putE (j : Nat) (x : Int32) (S : Sg) : Sg := su (su S 17 (nt (S.1 13 j)) (nI (max (nt (S.1 17 (nt (S.1 13 j)))) (nt x + 1)))) 12 j (x + 1)
/-- the element stored, the size one more -/
theorem k_add3 (hT : xT X = tb1) {S : Sg} (C : Cn X k0 p l R s m meth c cJx4a65c_add_72be8 RJx4a65c 4 6 132) (hr : meth.sig.returnType = none) {j : Nat} {x : Int32} (hj : j < 6) (hx : ¬ x < 0 ∧ x = S.1 12 j ∧ nt x < nt (S.1 14 (nt (S.1 13 j)))) (h13 : ¬ S.1 13 j < 0) (h : Qa 0 0 (putE j x S)) : V X p l e R s m args below meth c 4 (QM X below args s S0 ad0 rvV Qa) S0 ad0 S 11 [(0, .ref (enc 1 j)), (1, .ref (enc (3 + j) (nt x))), (2, .ref (enc 2 (nt (S.1 13 j)))), (3, .int x)] [] := by
  refine V_LI C fun hli => ?_
  obtain ⟨ci, N, fds, Ce, T, hlk, hci, hca⟩ := elemC hj
  obtain ⟨x1, x2, x3⟩ := hx
  obtain ⟨q1, q2, q3, q4, q5, q6, q7, q8⟩ : ¬ S.1 13 j < 0 ∧ nt (S.1 13 j) < nt (S.1 10 2) ∧ S.1 16 (nt (S.1 13 j)) = nI j ∧ j < 6 ∧ ¬ S.1 12 j < 0 ∧ nt (S.1 12 j) ≤ nt (S.1 17 (nt (S.1 13 j))) ∧ nt (S.1 17 (nt (S.1 13 j))) ≤ nt (S.1 14 (nt (S.1 13 j))) ∧ 10 ≤ nt (S.1 14 (nt (S.1 13 j))) := (hli.2 j).elim (fun q => absurd q.1 h13) (fun q => q)
  rw [← x2] at q6
  have hs := nt_succ x1 (by have := nt_lt (S.1 14 (nt (S.1 13 j))); omega)
  have hm : nt (nI (max (nt (S.1 17 (nt (S.1 13 j)))) (nt x + 1))) = max (nt (S.1 17 (nt (S.1 13 j)))) (nt x + 1) := nt_nI (by have := nt_lt (S.1 14 (nt (S.1 13 j))); omega)
  refine V_aload_n (pc := 11) C dJx4a65c_add_72be8_11 rfl 2 rfl ?_
  refine V_iload_n (pc := 12) C dJx4a65c_add_72be8_12 rfl 3 rfl ?_
  refine V_aload_n (pc := 13) C dJx4a65c_add_72be8_13 rfl 1 rfl ?_
  refine V_aast (pc := 14) C hT tb1_arr (o := j) ⟨x1, rfl, q6, x3, q7⟩ (by rw [q3, nt_nI (by omega)]) (by omega) hlk hci hca dJx4a65c_add_72be8_14 ?_
  refine V_aload_n (pc := 15) C dJx4a65c_add_72be8_15 rfl 0 rfl ?_
  refine V_iload_n (pc := 16) C dJx4a65c_add_72be8_16 rfl 3 rfl ?_
  refine V_iconst (pc := 17) C (v := 1) dJx4a65c_add_72be8_17 rfl ?_
  refine V_iadd (pc := 18) C dJx4a65c_add_72be8_18 ?_
  refine V_putD (pc := 19) C hT tb1_ok f1_Jx4a65c_2 (Or.inl rfl) ⟨by decide, by decide, by decide⟩ (gm 79 (by decide +kernel) (by decide +kernel)) (Or.inl rfl) (x := x + 1) (LI_size ?_ hs.2 ?_) (v := .int (x + 1)) ?_ trivial (fun ad => rfl) (fun ad => rfl) dJx4a65c_add_72be8_19 ?_
  · rw [su_ne (Or.inl (by decide))]; exact h13
  · rw [su_ne (c' := 13) (Or.inl (by decide)), su_at, hm, hs.1]; omega
  · show Value.int ((su _ 12 j (x + 1)).1 12 j) = _
    rw [su_at]
  · exact V_vret (pc := 22) C hr rfl h dJx4a65c_add_72be8_22
theorem ct_add3E (hT : xT X = tb1) (hl : l.stackTraces = false) {j : Nat} {x : Int32} {S : Sg} (hj : j < 6) (hx : x = 0) (h13 : S.1 13 j = nE) (h12 : S.1 12 j = 0) (hb : S.2.1 + 1 ≤ nB1 ∧ S.2.2 + 10 ≤ nB2) (h : Qa 0 0 (putE j x (su (nrw S j 10) 13 j (S.1 10 2)))) : CT X k0 l yJx4a65c_add_72be8 cJx4a65c_add_72be8 4 none 6 132 [.ref (enc 1 j), .ref (enc (3 + j) (nt x)), .ref 62, .int x] rvV S Qa :=
  CT_ofV (own := RJx4a65c) (by decide +kernel) (le8 rfl) rfl hl fun p e R s m args below meth c ad0 C hr hnm htab => by
    subst hx
    refine V_LI C fun hli => ?_
    have hc := hli.1 2
    refine V_iload_n (pc := 0) C dJx4a65c_add_72be8_0 rfl 3 rfl ?_
    refine V_aload_n (pc := 1) C dJx4a65c_add_72be8_1 rfl 2 rfl ?_
    refine V_elen (pc := 2) C dJx4a65c_add_72be8_2 ?_
    refine V_icmp_ne (pc := 3) (tgt := 11) (A := False) (B := True) C dJx4a65c_add_72be8_3 (by decide) ⟨fun _ => trivial, fun q => q rfl⟩ (fun q => q.elim) (fun _ => ?_)
    refine V_aload_n (pc := 6) C dJx4a65c_add_72be8_6 rfl 0 rfl ?_
    refine V_callV (pc := 7) C (ct_grow0E (Qa := fun k v S' => (k = 0 → v = S.1 10 2 ∧ S' = (su (nrw S j 10) 13 j (S.1 10 2))) ∧ (¬ k = 0 → Qa k 0 S')) hT hl hj h13 h12 hb ⟨fun _ => ⟨rfl, rfl⟩, fun q => absurd rfl q⟩) (gm 257 (by decide +kernel) (by decide +kernel)) (gm 259 (by decide +kernel) (by decide +kernel)) (gm 2 (by decide +kernel) (by decide +kernel)) (gm 260 (by decide +kernel) (by decide +kernel)) (gm 36 (by decide +kernel) (by decide +kernel)) ⟨by decide, by decide, pl_Jx4a65c_grow_d5877⟩ (enc_ne63 (by decide)) (ct_obj hT rfl (by decide)) rfl ⟨by decide, by decide⟩ (rest := []) rfl (le8 rfl) dJx4a65c_add_72be8_7 (fun v S1 h9 => ?_) (fun k9 S9 hk h => VX_out C htab hk (h.2 (by omega)))
    obtain ⟨rfl, rfl⟩ := h9.1 rfl
    refine V_st (st' := [Value.ref (enc 2 (nt (S.1 10 2)))]) rfl ?_
    refine V_astore_n (pc := 10) C dJx4a65c_add_72be8_10 rfl (by decide) rfl ?_
    have e13 : (su (nrw S j 10) 13 j (S.1 10 2)).1 13 j = S.1 10 2 := su_at
    refine V_sub [1, 2, 0, 3] (lv' := [(0, .ref (enc 1 j)), (1, .ref (enc (3 + j) (nt 0))), (2, .ref (enc 2 (nt ((su (nrw S j 10) 13 j (S.1 10 2)).1 13 j)))), (3, .int 0)]) (by rw [e13]; rfl) ?_
    refine k_add3 hT C hr hj ⟨by decide, ?_, ?_⟩ (by rw [e13]; exact hc.1) h
    · rw [su_ne (Or.inl (by decide)), nrw_ne (by decide) (Or.inl (by decide)), h12]
    · rw [e13, su_ne (Or.inl (by decide)), nrw_14]; decide
theorem ct_add3R (hT : xT X = tb1) (hl : l.stackTraces = false) {j n : Nat} {x : Int32} {S : Sg} (hj : j < 6) (hn : 10 ≤ n ∧ n ≤ 460) (hx : x = nI n) (h13 : ¬ S.1 13 j < 0) (h14 : S.1 14 (nt (S.1 13 j)) = nI n) (h12 : S.1 12 j = nI n) (hb : S.2.1 + 1 ≤ nB1 ∧ S.2.2 + (n + n / 2) ≤ nB2) (h : Qa 0 0 (putE j x (su (su (nrw S j (nI (n + n / 2))) 17 (nt (S.1 10 2)) (S.1 17 (nt (S.1 13 j)))) 13 j (S.1 10 2)))) : CT X k0 l yJx4a65c_add_72be8 cJx4a65c_add_72be8 4 none 6 132 [.ref (enc 1 j), .ref (enc (3 + j) (nt x)), .ref (enc 2 (nt (S.1 13 j))), .int x] rvV S Qa :=
  CT_ofV (own := RJx4a65c) (by decide +kernel) (le8 rfl) rfl hl fun p e R s m args below meth c ad0 C hr hnm htab => by
    subst hx
    refine V_LI C fun hli => ?_
    have hc := hli.1 2
    have en : nt (nI n) = n := nt_nI (by omega)
    have en2 : nt (nI (n + n / 2)) = n + n / 2 := nt_nI (by omega)
    refine V_iload_n (pc := 0) C dJx4a65c_add_72be8_0 rfl 3 rfl ?_
    refine V_aload_n (pc := 1) C dJx4a65c_add_72be8_1 rfl 2 rfl ?_
    refine V_qlen (pc := 2) C hT tb1_arr (by rw [h14]; exact nI_pos (by omega)) dJx4a65c_add_72be8_2 ?_
    rw [h14]
    refine V_icmp_ne (pc := 3) (tgt := 11) (A := False) (B := True) C dJx4a65c_add_72be8_3 (by decide) ⟨fun _ => trivial, fun q => q rfl⟩ (fun q => q.elim) (fun _ => ?_)
    refine V_aload_n (pc := 6) C dJx4a65c_add_72be8_6 rfl 0 rfl ?_
    refine V_callV (pc := 7) C (ct_grow0R (n := n) (Qa := fun k v S' => (k = 0 → v = S.1 10 2 ∧ S' = (su (su (nrw S j (nI (n + n / 2))) 17 (nt (S.1 10 2)) (S.1 17 (nt (S.1 13 j)))) 13 j (S.1 10 2))) ∧ (¬ k = 0 → Qa k 0 S')) hT hl hj hn h13 h14 h12 hb ⟨fun _ => ⟨rfl, rfl⟩, fun q => absurd rfl q⟩) (gm 257 (by decide +kernel) (by decide +kernel)) (gm 259 (by decide +kernel) (by decide +kernel)) (gm 2 (by decide +kernel) (by decide +kernel)) (gm 260 (by decide +kernel) (by decide +kernel)) (gm 36 (by decide +kernel) (by decide +kernel)) ⟨by decide, by decide, pl_Jx4a65c_grow_d5877⟩ (enc_ne63 (by decide)) (ct_obj hT rfl (by decide)) rfl ⟨by decide, by decide⟩ (rest := []) rfl (le8 rfl) dJx4a65c_add_72be8_7 (fun v S1 h9 => ?_) (fun k9 S9 hk h => VX_out C htab hk (h.2 (by omega)))
    obtain ⟨rfl, rfl⟩ := h9.1 rfl
    refine V_st (st' := [Value.ref (enc 2 (nt (S.1 10 2)))]) rfl ?_
    refine V_astore_n (pc := 10) C dJx4a65c_add_72be8_10 rfl (by decide) rfl ?_
    have e13 : (su (su (nrw S j (nI (n + n / 2))) 17 (nt (S.1 10 2)) (S.1 17 (nt (S.1 13 j)))) 13 j (S.1 10 2)).1 13 j = S.1 10 2 := su_at
    refine V_sub [1, 2, 0, 3] (lv' := [(0, .ref (enc 1 j)), (1, .ref (enc (3 + j) (nt (nI n)))), (2, .ref (enc 2 (nt ((su (su (nrw S j (nI (n + n / 2))) 17 (nt (S.1 10 2)) (S.1 17 (nt (S.1 13 j)))) 13 j (S.1 10 2)).1 13 j)))), (3, .int (nI n))]) (by rw [e13]; rfl) ?_
    refine k_add3 hT C hr hj ⟨nI_pos (by omega), ?_, ?_⟩ (by rw [e13]; exact hc.1) h
    · rw [su_ne (Or.inl (by decide)), su_ne (Or.inl (by decide)), nrw_ne (by decide) (Or.inl (by decide)), h12]
    · rw [e13, su_ne (Or.inl (by decide)), su_ne (Or.inl (by decide)), nrw_14, en, en2]; omega
theorem ct_add3 (hT : xT X = tb1) (hl : l.stackTraces = false) {j : Nat} {x : Int32} {S : Sg} (hj : j < 6) (hx : ¬ x < 0 ∧ x = S.1 12 j ∧ nt x < nt (S.1 14 (nt (S.1 13 j)))) (h13 : ¬ S.1 13 j < 0) (h14 : ¬ S.1 14 (nt (S.1 13 j)) < 0) (h : Qa 0 0 (putE j x S)) : CT X k0 l yJx4a65c_add_72be8 cJx4a65c_add_72be8 4 none 6 132 [.ref (enc 1 j), .ref (enc (3 + j) (nt x)), .ref (enc 2 (nt (S.1 13 j))), .int x] rvV S Qa :=
  CT_ofV (own := RJx4a65c) (by decide +kernel) (le8 rfl) rfl hl fun p e R s m args below meth c ad0 C hr hnm htab => by
    refine V_iload_n (pc := 0) C dJx4a65c_add_72be8_0 rfl 3 rfl ?_
    refine V_aload_n (pc := 1) C dJx4a65c_add_72be8_1 rfl 2 rfl ?_
    refine V_qlen (pc := 2) C hT tb1_arr h14 dJx4a65c_add_72be8_2 ?_
    refine V_icmp_ne (pc := 3) (tgt := 11) (A := True) (B := False) C dJx4a65c_add_72be8_3 (by decide) ⟨fun q => absurd hx.2.2 (by rw [q]; exact Nat.lt_irrefl _), fun _ => trivial⟩ (fun _ => ?_) (fun q => q.elim)
    exact k_add3 hT C hr hj hx h13 h
/-- the columns that an element more leaves as they are -/
def FRm (j : Nat) (S T : Sg) : Prop := (∀ c i, c ≠ 10 → c ≠ 11 → c ≠ 12 → c ≠ 13 → c ≠ 14 → c ≠ 16 → c ≠ 17 → T.1 c i = S.1 c i) ∧ (∀ k, k ≠ 2 → T.1 10 k = S.1 10 k) ∧ (∀ i, T.1 12 i = S.1 12 i) ∧ ∀ i, i ≠ j → T.1 13 i = S.1 13 i
def addQ (j : Nat) (S T : Sg) : Prop := (∀ c i, c ≠ 10 → c ≠ 11 → c ≠ 12 → c ≠ 13 → c ≠ 14 → c ≠ 16 → c ≠ 17 → T.1 c i = S.1 c i) ∧ (∀ k, k ≠ 2 → T.1 10 k = S.1 10 k) ∧ (∀ i, T.1 12 i = if i = j then S.1 12 j + 1 else S.1 12 i) ∧ (¬ T.1 13 j < 0 ∧ ∀ i, i ≠ j → T.1 13 i = S.1 13 i) ∧ T.2.1 ≤ S.2.1 + 1 ∧ T.2.2 ≤ S.2.2 + 700
theorem FR_rf {j : Nat} {S : Sg} : FRm j S S := ⟨fun _ _ _ _ _ _ _ _ _ => rfl, fun _ _ => rfl, fun _ => rfl, fun _ _ => rfl⟩
theorem FR_su {j c i : Nat} {S T : Sg} {v : Int32} (hc : c = 11 ∨ c = 14 ∨ c = 16 ∨ c = 17) (h : FRm j S T) : FRm j S (su T c i v) := by
  obtain ⟨a, b, d, f⟩ := h
  exact ⟨fun c' i' h1 h2 h3 h4 h5 h6 h7 => by rw [su_ne (Or.inl (by omega))]; exact a c' i' h1 h2 h3 h4 h5 h6 h7, fun k hk => by rw [su_ne (Or.inl (by omega))]; exact b k hk, fun i' => by rw [su_ne (Or.inl (by omega))]; exact d i', fun i' hi => by rw [su_ne (Or.inl (by omega))]; exact f i' hi⟩
theorem FR_13 {j : Nat} {S T : Sg} {v : Int32} (h : FRm j S T) : FRm j S (su T 13 j v) := by
  obtain ⟨a, b, d, f⟩ := h
  exact ⟨fun c' i' h1 h2 h3 h4 h5 h6 h7 => by rw [su_ne (Or.inl h4)]; exact a c' i' h1 h2 h3 h4 h5 h6 h7, fun k hk => by rw [su_ne (Or.inl (by decide))]; exact b k hk, fun i' => by rw [su_ne (Or.inl (by decide))]; exact d i', fun i' hi => by rw [su_ne (Or.inr hi)]; exact f i' hi⟩
theorem FR_nrw {j o : Nat} {S T : Sg} {x : Int32} (h : FRm j S T) : FRm j S (nrw T o x) := by
  obtain ⟨a, b, d, f⟩ := h
  exact ⟨fun c' i' h1 h2 h3 h4 h5 h6 h7 => by rw [nrw_ne h1 (Or.inl ⟨h5, h6, h7⟩)]; exact a c' i' h1 h2 h3 h4 h5 h6 h7, fun k hk => by show (if k = 2 then _ else T.1 10 k) = _; rw [if_neg hk]; exact b k hk, fun i' => by rw [nrw_ne (by decide) (Or.inl (by decide))]; exact d i', fun i' hi => by rw [nrw_ne (by decide) (Or.inl (by decide))]; exact f i' hi⟩
theorem addQ_put {j : Nat} {S T : Sg} {x : Int32} (h : FRm j S T) (h13 : ¬ T.1 13 j < 0) (hx : x = S.1 12 j) (g1 : T.2.1 ≤ S.2.1 + 1) (g2 : T.2.2 ≤ S.2.2 + 700) : addQ j S (putE j x T) := by
  obtain ⟨a, b, d, f⟩ := FR_su (c := 17) (i := nt (T.1 13 j)) (v := nI (max (nt (T.1 17 (nt (T.1 13 j)))) (nt x + 1))) (by omega) h
  refine ⟨fun c i h1 h2 h3 h4 h5 h6 h7 => ?_, fun k hk => ?_, fun i => ?_, ⟨?_, fun i hi => ?_⟩, g1, g2⟩
  · unfold putE; rw [su_ne (Or.inl h3)]; exact a c i h1 h2 h3 h4 h5 h6 h7
  · unfold putE; rw [su_ne (Or.inl (by decide))]; exact b k hk
  · unfold putE
    by_cases hi : i = j
    · rw [if_pos hi, hi, su_at, hx]
    · rw [if_neg hi, su_ne (Or.inr hi)]; exact d i
  · unfold putE; rw [su_ne (Or.inl (by decide)), su_ne (Or.inl (by decide))]; exact h13
  · unfold putE; rw [su_ne (Or.inl (by decide))]; exact f i hi
theorem ct_add (hT : xT X = tb1) (hl : l.stackTraces = false) {j : Nat} (hj : j < 6) {x : Int32} {S : Sg} (h : w_add j x S Qa) : CT X k0 l yJx4a65c_add_9ea2d cJx4a65c_add_9ea2d 2 (some .boolean) 7 160 [.ref (enc 1 j), .ref (enc (3 + j) (nt x))] rvI S Qa :=
  CT_ofV (own := RJx4a65c) (by decide +kernel) (le8 rfl) rfl hl fun p e R s m args below meth c ad0 C hr hnm htab => by
    obtain ⟨⟨hx, h460, h13, hb1, hb2⟩, h⟩ := h
    refine V_aload_n (pc := 0) C dJx4a65c_add_9ea2d_0 rfl 0 rfl ?_
    refine V_dup (pc := 1) C dJx4a65c_add_9ea2d_1 rfl ?_
    refine V_getI (pc := 2) C hT f1_Jx4a65c_0 (gm 81 (by decide +kernel) (by decide +kernel)) dJx4a65c_add_9ea2d_2 ?_
    refine V_iconst (pc := 5) C (v := 1) dJx4a65c_add_9ea2d_5 rfl ?_
    refine V_iadd (pc := 6) C dJx4a65c_add_9ea2d_6 ?_
    refine V_putI (pc := 7) C hT tb1_ok f1_Jx4a65c_0 (by unfold lc; decide) (gm 81 (by decide +kernel) (by decide +kernel)) (Or.inl rfl) (Or.inl rfl) dJx4a65c_add_9ea2d_7 (V_nx fun S1 e1 => ?_)
    have f13 : ∀ i, S1.1 13 i = S.1 13 i := fun i => by rw [e1, su_ne (Or.inl (by decide))]
    have f12 : ∀ i, S1.1 12 i = S.1 12 i := fun i => by rw [e1, su_ne (Or.inl (by decide))]
    have f2 : S1.2 = S.2 := by rw [e1]; rfl
    have hF : FRm j S S1 := by rw [e1]; exact FR_su (by omega) FR_rf
    have hb : S1.2.1 + 1 ≤ nB1 := by rw [f2]; exact hb1
    have hend : ∀ S2, addQ j S S2 → V X p l e R s m args below meth c 2 (QM X below args s S ad0 rvI Qa) S ad0 S2 23 [(0, .ref (enc 1 j)), (1, .ref (enc (3 + j) (nt x)))] [] := by
      intro S2 hq
      obtain ⟨a, b, d, f, g1, g2⟩ := hq
      refine V_up C (a := S.2.1 + 1) (b := S.2.2 + 700) hb1 hb2 g1 g2 ?_
      refine V_iconst (pc := 23) C (v := 1) dJx4a65c_add_9ea2d_23 rfl ?_
      exact V_zret (pc := 24) C hr (by decide) rfl (h _ ⟨a, b, d, f, rfl⟩) dJx4a65c_add_9ea2d_24
    refine V_aload_n (pc := 10) C dJx4a65c_add_9ea2d_10 rfl 0 rfl ?_
    refine V_aload_n (pc := 11) C dJx4a65c_add_9ea2d_11 rfl 1 rfl ?_
    refine V_aload_n (pc := 12) C dJx4a65c_add_9ea2d_12 rfl 0 rfl ?_
    refine V_LI C fun hli => ?_
    rcases h13 with h13 | h13
    · have h0 : S1.1 12 j = 0 := by
        rcases hli.2 j with q | q
        · exact q.2
        · exact absurd (show S1.1 13 j < 0 by rw [f13, h13]; decide) q.1
      have hdv : dv S1 j (2, 13, 2) = .ref 62 := by
        show rf (S1.1 13 j) 2 = _
        rw [f13, h13, rf_nE]
      refine V_getD (pc := 13) C hT f1_Jx4a65c_1 (gm 78 (by decide +kernel) (by decide +kernel)) dJx4a65c_add_9ea2d_13 (by rw [hdv]; exact Or.inl (by decide)) ?_
      rw [hdv]
      refine V_aload_n (pc := 16) C dJx4a65c_add_9ea2d_16 rfl 0 rfl ?_
      refine V_getI (pc := 17) C hT f1_Jx4a65c_2 (gm 79 (by decide +kernel) (by decide +kernel)) dJx4a65c_add_9ea2d_17 ?_
      refine V_st (st' := [Value.int x, .ref 62, .ref (enc (3 + j) (nt x)), .ref (enc 1 j)]) (by rw [f12, hx]) ?_
      refine V_callV (pc := 20) C (ct_add3E (Qa := fun k v S' => (k = 0 → addQ j S S') ∧ (¬ k = 0 → Qa k 0 S')) hT hl hj ((show x = S1.1 12 j by rw [f12]; exact hx).trans h0) (by rw [f13]; exact h13) h0 ⟨hb, by rw [f2]; omega⟩ ⟨fun _ => addQ_put (FR_13 (FR_nrw hF)) (by rw [su_at]; exact (hli.1 2).1) hx (by show S1.2.1 + 1 ≤ _; rw [f2]; omega) (by show S1.2.2 + 10 ≤ _; rw [f2]; omega), fun q => absurd rfl q⟩) (gm 253 (by decide +kernel) (by decide +kernel)) (gm 255 (by decide +kernel) (by decide +kernel)) (gm 1 (by decide +kernel) (by decide +kernel)) (gm 256 (by decide +kernel) (by decide +kernel)) (gm 36 (by decide +kernel) (by decide +kernel)) ⟨by decide, by decide, pl_Jx4a65c_add_72be8⟩ (enc_ne63 (by decide)) (ct_obj hT rfl (by decide)) rfl ⟨by decide, by decide⟩ (rest := []) rfl (le8 rfl) dJx4a65c_add_9ea2d_20 (fun v S2 h9 => ?_) (fun k9 S9 hk h => VX_out C htab hk (h.2 (by omega)))
      exact hend _ (h9.1 rfl)
    · obtain ⟨q1, q2, q3, q4, q5, q6, q7, q8⟩ : ¬ S1.1 13 j < 0 ∧ nt (S1.1 13 j) < nt (S1.1 10 2) ∧ S1.1 16 (nt (S1.1 13 j)) = nI j ∧ j < 6 ∧ ¬ S1.1 12 j < 0 ∧ nt (S1.1 12 j) ≤ nt (S1.1 17 (nt (S1.1 13 j))) ∧ nt (S1.1 17 (nt (S1.1 13 j))) ≤ nt (S1.1 14 (nt (S1.1 13 j))) ∧ 10 ≤ nt (S1.1 14 (nt (S1.1 13 j))) := (hli.2 j).elim (fun q => absurd q.1 (by rw [f13]; exact h13)) (fun q => q)
      have hxx : x = S1.1 12 j := by rw [f12]; exact hx
      rw [← hxx] at q5 q6
      have q9 : ¬ S1.1 14 (nt (S1.1 13 j)) < 0 := fun q => by
        have e9 : nt (S1.1 14 (nt (S1.1 13 j))) = 0 := by
          have := Int32.lt_iff_toInt_lt.mp q
          have z0 : (0 : Int32).toInt = 0 := by decide
          rw [z0] at this
          show (S1.1 14 (nt (S1.1 13 j))).toInt.toNat = 0
          omega
        omega
      refine V_getR (pc := 13) C hT f1_Jx4a65c_1 (by decide) (gm 78 (by decide +kernel) (by decide +kernel)) dJx4a65c_add_9ea2d_13 (A := True) ⟨q1, trivial⟩ (fun _ => ?_)
      refine V_aload_n (pc := 16) C dJx4a65c_add_9ea2d_16 rfl 0 rfl ?_
      refine V_getI (pc := 17) C hT f1_Jx4a65c_2 (gm 79 (by decide +kernel) (by decide +kernel)) dJx4a65c_add_9ea2d_17 ?_
      refine V_st (st' := [Value.int x, .ref (enc 2 (nt (S1.1 13 j))), .ref (enc (3 + j) (nt x)), .ref (enc 1 j)]) (by rw [← hxx]) ?_
      by_cases hc : nt x = nt (S1.1 14 (nt (S1.1 13 j)))
      · have ecap : S1.1 14 (nt (S1.1 13 j)) = nI (nt x) := by rw [hc, nI_nt q9]
        refine V_callV (pc := 20) C (ct_add3R (n := nt x) (Qa := fun k v S' => (k = 0 → addQ j S S') ∧ (¬ k = 0 → Qa k 0 S')) hT hl hj ⟨by omega, h460⟩ (nI_nt q5).symm q1 ecap (by rw [← hxx, nI_nt q5]) ⟨hb, by rw [f2]; omega⟩ ⟨fun _ => addQ_put (FR_13 (FR_su (by omega) (FR_nrw hF))) (by rw [su_at]; exact (hli.1 2).1) hx (by show S1.2.1 + 1 ≤ _; rw [f2]; omega) (by show S1.2.2 + nt (nI (nt x + nt x / 2)) ≤ _; rw [f2, nt_nI (by omega)]; omega), fun q => absurd rfl q⟩) (gm 253 (by decide +kernel) (by decide +kernel)) (gm 255 (by decide +kernel) (by decide +kernel)) (gm 1 (by decide +kernel) (by decide +kernel)) (gm 256 (by decide +kernel) (by decide +kernel)) (gm 36 (by decide +kernel) (by decide +kernel)) ⟨by decide, by decide, pl_Jx4a65c_add_72be8⟩ (enc_ne63 (by decide)) (ct_obj hT rfl (by decide)) rfl ⟨by decide, by decide⟩ (rest := []) rfl (le8 rfl) dJx4a65c_add_9ea2d_20 (fun v S2 h9 => ?_) (fun k9 S9 hk h => VX_out C htab hk (h.2 (by omega)))
        exact hend _ (h9.1 rfl)
      · refine V_callV (pc := 20) C (ct_add3 (Qa := fun k v S' => (k = 0 → addQ j S S') ∧ (¬ k = 0 → Qa k 0 S')) hT hl hj ⟨q5, hxx, by omega⟩ q1 q9 ⟨fun _ => addQ_put hF q1 hx (by rw [f2]; omega) (by rw [f2]; omega), fun q => absurd rfl q⟩) (gm 253 (by decide +kernel) (by decide +kernel)) (gm 255 (by decide +kernel) (by decide +kernel)) (gm 1 (by decide +kernel) (by decide +kernel)) (gm 256 (by decide +kernel) (by decide +kernel)) (gm 36 (by decide +kernel) (by decide +kernel)) ⟨by decide, by decide, pl_Jx4a65c_add_72be8⟩ (enc_ne63 (by decide)) (ct_obj hT rfl (by decide)) rfl ⟨by decide, by decide⟩ (rest := []) rfl (le8 rfl) dJx4a65c_add_9ea2d_20 (fun v S2 h9 => ?_) (fun k9 S9 hk h => VX_out C htab hk (h.2 (by omega)))
        exact hend _ (h9.1 rfl)
end LM
