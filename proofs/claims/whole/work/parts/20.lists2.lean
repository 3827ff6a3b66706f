/-! a list's members as contracts; a nest mate's constructor -/
section RC
variable {X : Cx} {K : KL} {p : Program} {l : Launch} {e : Env} {R : Room} {s : State} {m : MethodId} {args : Array Value} {below : List Frame} {meth : Method} {c : Code} {nL fr lo : Nat} {Q : State → Prop} {S0 S : Sg} {ad0 : Nat → Nat}
variable {cc : ByteArray} {own : String} {pc : Nat} {lv : List (Nat × Value)} {st : List Value} {rv : Int32 → Option Value} {Qa : Nat → Int32 → Sg → Prop}
theorem V_callIN (C : Cn X K p l R s m meth c cc own nL fr lo) {index fr' lo' maxL b : Nat} {y : MethodName} {bytes : ByteArray} {As rest : List Value} {rvg : Int32 → Option Value} {Qg : Nat → Int32 → Sg → Prop} (ct9 : CT X K l y bytes maxL none fr' lo' (.ref b :: As) rvg S Qg)
    (hyn : own = RX5 ∧ index = 11 ∧ y = yX4_init) (w2 : Cond.instanceMethod y ∈ gW) (w4 : Cond.code y bytes maxL none ∈ gW) (w5 : Cond.initialized y.cls ∈ gW) (hy1 : y.name = "<init>") (hy : y.cls ≠ "java/lang/invoke/MethodHandle" ∧ y.cls ≠ "java/lang/invoke/VarHandle" ∧ (parseMethodDescriptor y.desc).map (fun d => d.parameters.length) = some As.length)
    (hR : fr' + 1 ≤ fr ∧ 8 + (maxL + 11) + lo' ≤ lo) (hst : st = As.reverse ++ .ref b :: rest) (hsum : (rest.map fun v => v.category).sum ≤ 8) (hdg : decode cc pc = .ok (.invokespecial index, 3))
    (kr : ∀ v S', Qg 0 v S' → V X p l e R s m args below meth c nL Q S0 ad0 (S') (pc + 3) (lv) ((rvg v).toList ++ rest)) (kx : ∀ k S', (k = 1 ∨ k = 2 ∨ k = 3) → Qg k 0 S' → VX X p l e R s m args below meth c nL Q S0 ad0 S' pc lv (exn k)) : V X p l e R s m args below meth c nL Q S0 ad0 (S) (pc) (lv) (st) := by
  intro h1 h2 ad H locs ls hE hW hL z1 z2 hl
  subst hst
  have hA : okL S (.ref b :: As) := ⟨(okL_app.mp h1).2.1, okL_rev.mp (okL_app.mp h1).1⟩
  have hM := ct9 hA ad H.size (slotSum H)
  have hP := CT_pre (y := y) (As := .ref b :: As) (bytes := bytes) (maxL := maxL) (ret := none) C hW
  have KKs := C.2.2.2.2.1
  have hnl : (Cond.methodLinkNest own index y "Platterhouse").before args s = true := by
    obtain ⟨-, -, -, -, -, -, -, -, -, -, -, h9, -⟩ := And.intro KKs.1 KKs.2
    rw [hyn.1, hyn.2.1, hyn.2.2]
    exact va_Nw.use rfl h9
  refine V_run hE hL hl h2 (okL_app.mp h1).2.2 (vx_runIN (host := "Platterhouse") (Ts := []) (As := As.map (cv ad)) (b := ad b) (n := As.length) ⟨C.1, C.2.1, C.2.2.1, C.2.2.2.1, fun w hw => absurd hw List.not_mem_nil⟩ hM ⟨⟨⟨rfl, rfl, by rw [C.2.2.2.2.2.2.1]; exact hR.1, by rw [C.2.2.2.2.2.2.2.1]; exact hR.2, fun w hw a' U hU => ?_, List.mem_cons_self⟩, KK.w KKs w4 args, KK.w KKs w5 args, ⟨hy.1, hy.2.1⟩, fun sig h => ?_, hnl⟩, hy1, KK.w KKs w2 args⟩ hP rfl (by rw [List.length_map]) hl.1 (by rw [List.map_append, List.map_reverse]; rfl) (lv_room (by rw [cv_sum]; exact hsum)) hdg (room_call C hW z1 z2)) kr kx
  · rw [List.mem_singleton.mp hw]; exact word_at hU (gW_good w4) (KK.w KKs w4 args)
  · have h9 := hy.2.2; rw [h] at h9; exact (Option.some.inj h9).symm
end RC
theorem nest_ok : RX5 = RX5 ∧ 11 = 11 ∧ yX4_init = yX4_init := ⟨rfl, rfl, rfl⟩
def w_size (j : Nat) (S : Sg) (Q : Nat → Int32 → Sg → Prop) : Prop := Q 0 (S.1 12 j) S
def w_get (j : Nat) (x : Int32) (S : Sg) (Q : Nat → Int32 → Sg → Prop) : Prop := (¬ x < 0 ∧ x < S.1 12 j) ∧ Q 0 x S
/-- what an element more does -/
def addR (j : Nat) (S S' : Sg) : Prop := (∀ c i, c ≠ 10 → c ≠ 11 → c ≠ 12 → c ≠ 13 → c ≠ 14 → c ≠ 16 → c ≠ 17 → S'.1 c i = S.1 c i) ∧ (∀ k, k ≠ 2 → S'.1 10 k = S.1 10 k) ∧ (∀ i, S'.1 12 i = if i = j then S.1 12 j + 1 else S.1 12 i) ∧ S'.2 = (S.2.1 + 1, S.2.2 + 700)
def w_add (j : Nat) (x : Int32) (S : Sg) (Q : Nat → Int32 → Sg → Prop) : Prop := (x = S.1 12 j ∧ nt x ≤ 460 ∧ S.2.1 + 1 ≤ nB1 ∧ S.2.2 + 700 ≤ nB2) ∧ ∀ S1, addR j S S1 → Q 0 1 S1
theorem pl_Jx4a65c_size_8abf5 : (parseMethodDescriptor yJx4a65c_size_8abf5.desc).map (fun d => d.parameters.length) = some 0 := by decide +kernel
theorem pl_Jx4a65c_get_915e3 : (parseMethodDescriptor yJx4a65c_get_915e3.desc).map (fun d => d.parameters.length) = some 1 := by decide +kernel
theorem pl_Jx4a65c_add_9ea2d : (parseMethodDescriptor yJx4a65c_add_9ea2d.desc).map (fun d => d.parameters.length) = some 1 := by decide +kernel
section LM
variable {X : Cx} {p : Program} {l : Launch} {e : Env} {R : Room} {s : State} {m : MethodId} {args : Array Value} {below : List Frame} {meth : Method} {c : Code} {S0 : Sg} {ad0 : Nat → Nat} {Qa : Nat → Int32 → Sg → Prop}
theorem ct_size (hT : xT X = tb1) (hl : l.stackTraces = false) {j : Nat} {S : Sg} (h : w_size j S Qa) : CT X k0 l yJx4a65c_size_8abf5 cJx4a65c_size_8abf5 1 (some .int) 1 0 [.ref (enc 1 j)] rvI S Qa :=
  CT_ofV (own := RJx4a65c) (by decide +kernel) (le8 rfl) rfl hl fun p e R s m args below meth c ad0 C hr hnm htab => by
    refine V_aload_n (pc := 0) C dJx4a65c_size_8abf5_0 rfl 0 rfl ?_
    refine V_getI (pc := 1) C hT f1_Jx4a65c_2 (gm 107 (by decide +kernel) (by decide +kernel)) dJx4a65c_size_8abf5_1 ?_
    exact V_iret (pc := 4) C hr rfl h dJx4a65c_size_8abf5_4
theorem nt_mono {x y : Int32} (h : ¬ x < 0) (h2 : x < y) : nt x < nt y := by
  have a := Int32.lt_iff_toInt_lt.mp h2
  have b : (0 : Int) ≤ x.toInt := by
    have := Int32.not_lt.mp h
    simpa using Int32.le_iff_toInt_le.mp this
  show x.toInt.toNat < y.toInt.toNat
  omega
theorem pl_J3_checkIndex_8e157 : (parseMethodDescriptor yJ3_checkIndex_8e157.desc).map (fun d => d.parameters.length) = some 3 := by decide +kernel
theorem pl_J15_checkIndex_7cf53 : (parseMethodDescriptor yJ15_checkIndex_7cf53.desc).map (fun d => d.parameters.length) = some 2 := by decide +kernel
theorem pl_Jx4a65c_elementData_915e3 : (parseMethodDescriptor yJx4a65c_elementData_915e3.desc).map (fun d => d.parameters.length) = some 1 := by decide +kernel
theorem ct_pchk (hl : l.stackTraces = false) {x n : Int32} {S : Sg} (h : (¬ x < 0 ∧ x < n) ∧ Qa 0 x S) : CT X k0 l yJ3_checkIndex_8e157 cJ3_checkIndex_8e157 3 (some .int) 1 0 [.int x, .int n, .null] rvI S Qa :=
  CT_ofV (own := RJ3) (by decide +kernel) (le8 rfl) rfl hl fun p e R s m args below meth c ad0 C hr hnm htab => by
    refine V_iload_n (pc := 0) C dJ3_checkIndex_8e157_0 rfl 0 rfl ?_
    refine V_if_lt (pc := 1) (tgt := 9) (A := False) (B := True) C dJ3_checkIndex_8e157_1 (by decide) ⟨h.1.1, fun _ => trivial⟩ (fun q => q.elim) (fun _ => ?_)
    refine V_iload_n (pc := 4) C dJ3_checkIndex_8e157_4 rfl 0 rfl ?_
    refine V_iload_n (pc := 5) C dJ3_checkIndex_8e157_5 rfl 1 rfl ?_
    refine V_icmp_lt (pc := 6) (tgt := 16) (A := True) (B := False) C dJ3_checkIndex_8e157_6 (by decide) ⟨fun _ => trivial, fun q => q h.1.2⟩ (fun _ => ?_) (fun q => q.elim)
    refine V_iload_n (pc := 16) C dJ3_checkIndex_8e157_16 rfl 0 rfl ?_
    exact V_iret (pc := 17) C hr rfl h.2 dJ3_checkIndex_8e157_17
theorem ct_ochk (hl : l.stackTraces = false) {x n : Int32} {S : Sg} (h : (¬ x < 0 ∧ x < n) ∧ Qa 0 x S) : CT X k0 l yJ15_checkIndex_7cf53 cJ15_checkIndex_7cf53 2 (some .int) 2 22 [.int x, .int n] rvI S Qa :=
  CT_ofV (own := RJ15) (by decide +kernel) (le8 rfl) rfl hl fun p e R s m args below meth c ad0 C hr hnm htab => by
    refine V_iload_n (pc := 0) C dJ15_checkIndex_7cf53_0 rfl 0 rfl ?_
    refine V_iload_n (pc := 1) C dJ15_checkIndex_7cf53_1 rfl 1 rfl ?_
    refine V_null (pc := 2) C dJ15_checkIndex_7cf53_2 ?_
    refine V_callS (pc := 3) C (ct_pchk (Qa := fun k v S1 => (k = 0 → Qa 0 v S1) ∧ (¬ k = 0 → Qa k 0 S1)) hl ⟨h.1, fun _ => h.2, fun q => absurd rfl q⟩) (gm 367 (by decide +kernel) (by decide +kernel)) (gm 368 (by decide +kernel) (by decide +kernel)) (gm 369 (by decide +kernel) (by decide +kernel)) (gm 77 (by decide +kernel) (by decide +kernel)) ⟨by decide, by decide, pl_J3_checkIndex_8e157⟩ ⟨by decide, by decide⟩ (rest := []) rfl (le8 rfl) dJ15_checkIndex_7cf53_3 (fun v S1 h => ?_) (fun k9 S9 hk h => VX_out C htab hk (h.2 (by omega)))
    replace h := h.1 rfl
    refine V_st (st' := [Value.int v]) rfl ?_
    exact V_iret (pc := 6) C hr rfl h dJ15_checkIndex_7cf53_6
theorem ct_elem (hT : xT X = tb1) (hl : l.stackTraces = false) {j : Nat} (hj : j < 6) {x : Int32} {S : Sg} (h : w_get j x S Qa) : CT X k0 l yJx4a65c_elementData_915e3 cJx4a65c_elementData_915e3 2 (some (.object "java/lang/Object")) 1 0 [.ref (enc 1 j), .int x] (rvR (3 + j)) S Qa :=
  CT_ofV (own := RJx4a65c) (by decide +kernel) (le8 rfl) rfl hl fun p e R s m args below meth c ad0 C hr hnm htab => by
    refine V_aload_n (pc := 0) C dJx4a65c_elementData_915e3_0 rfl 0 rfl ?_
    refine V_LI C fun hli => ?_
    have hs := nt_mono h.1.1 h.1.2
    rcases hli.2 j with ⟨q1, q2⟩ | ⟨q1, q2, q3, q4, q5, q6, q7, q8⟩
    · rw [q2] at hs
      exact absurd hs (Nat.not_lt_zero _)
    · refine V_getR (pc := 1) C hT f1_Jx4a65c_1 (by decide) (gm 106 (by decide +kernel) (by decide +kernel)) dJx4a65c_elementData_915e3_1 (A := True) ⟨q1, trivial⟩ (fun _ => ?_)
      refine V_iload_n (pc := 4) C dJx4a65c_elementData_915e3_4 rfl 1 rfl ?_
      refine V_aald (pc := 5) C hT tb1_arr ⟨h.1.1, by omega, q7⟩ dJx4a65c_elementData_915e3_5 ?_
      refine V_st (st' := [Value.ref (enc (3 + j) (nt x))]) (by rw [q3, nt_nI (by omega)]) ?_
      exact V_aret (pc := 6) C hr rfl h.2 dJx4a65c_elementData_915e3_6
theorem ct_get (hT : xT X = tb1) (hl : l.stackTraces = false) {j : Nat} (hj : j < 6) {x : Int32} {S : Sg} (h : w_get j x S Qa) : CT X k0 l yJx4a65c_get_915e3 cJx4a65c_get_915e3 2 (some (.object "java/lang/Object")) 3 60 [.ref (enc 1 j), .int x] (rvR (3 + j)) S Qa :=
  CT_ofV (own := RJx4a65c) (by decide +kernel) (le8 rfl) rfl hl fun p e R s m args below meth c ad0 C hr hnm htab => by
    refine V_iload_n (pc := 0) C dJx4a65c_get_915e3_0 rfl 1 rfl ?_
    refine V_aload_n (pc := 1) C dJx4a65c_get_915e3_1 rfl 0 rfl ?_
    refine V_getI (pc := 2) C hT f1_Jx4a65c_2 (gm 107 (by decide +kernel) (by decide +kernel)) dJx4a65c_get_915e3_2 ?_
    refine V_callS (pc := 5) C (ct_ochk (Qa := fun k v S1 => (k = 0 → S1 = S) ∧ (¬ k = 0 → Qa k 0 S1)) hl ⟨h.1, fun _ => rfl, fun q => absurd rfl q⟩) (gm 364 (by decide +kernel) (by decide +kernel)) (gm 365 (by decide +kernel) (by decide +kernel)) (gm 366 (by decide +kernel) (by decide +kernel)) (gm 76 (by decide +kernel) (by decide +kernel)) ⟨by decide, by decide, pl_J15_checkIndex_7cf53⟩ ⟨by decide, by decide⟩ (rest := []) rfl (le8 rfl) dJx4a65c_get_915e3_5 (fun v S1 h9 => ?_) (fun k9 S9 hk h => VX_out C htab hk (h.2 (by omega)))
    obtain rfl := h9.1 rfl
    refine V_st (st' := [Value.int v]) rfl ?_
    refine V_pop (pc := 8) C dJx4a65c_get_915e3_8 rfl ?_
    refine V_aload_n (pc := 9) C dJx4a65c_get_915e3_9 rfl 0 rfl ?_
    refine V_iload_n (pc := 10) C dJx4a65c_get_915e3_10 rfl 1 rfl ?_
    refine V_callV (pc := 11) C (ct_elem (Qa := fun k v S1 => (k = 0 → Qa 0 v S1) ∧ (¬ k = 0 → Qa k 0 S1)) hT hl hj ⟨h.1, fun _ => h.2, fun q => absurd rfl q⟩) (gm 370 (by decide +kernel) (by decide +kernel)) (gm 371 (by decide +kernel) (by decide +kernel)) (gm 372 (by decide +kernel) (by decide +kernel)) (gm 373 (by decide +kernel) (by decide +kernel)) (gm 63 (by decide +kernel) (by decide +kernel)) ⟨by decide, by decide, pl_Jx4a65c_elementData_915e3⟩ (enc_ne63 (by decide)) (ct_obj hT rfl (by decide)) rfl ⟨by decide, by decide⟩ (rest := []) rfl (le8 rfl) dJx4a65c_get_915e3_11 (fun v S1 h => ?_) (fun k9 S9 hk h => VX_out C htab hk (h.2 (by omega)))
    replace h := h.1 rfl
    refine V_st (st' := [Value.ref (enc (3 + j) (nt v))]) rfl ?_
    exact V_aret (pc := 14) C hr rfl h dJx4a65c_get_915e3_14
theorem ct_add (hT : xT X = tb1) (hl : l.stackTraces = false) {j : Nat} (hj : j < 6) {x : Int32} {S : Sg} (h : w_add j x S Qa) : CT X k0 l yJx4a65c_add_9ea2d cJx4a65c_add_9ea2d 2 (some .boolean) 7 160 [.ref (enc 1 j), .ref (enc (3 + j) (nt x))] rvI S Qa := by
  sorry
end LM
