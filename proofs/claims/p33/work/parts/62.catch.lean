/-! methods with handlers: their contracts, their calls, what they catch -/
def CTH (X : Cx) (K : KL) (l : Launch) (y : MethodName) (cc : ByteArray) (nL : Nat) (ret : Option FieldType) (hh : List (Nat × Nat × Nat × Nat)) (fr lo : Nat) (As : List Value) (rv : Int32 → Option Value) (S : Sg) (Qa : Nat → Int32 → Sg → Prop) : Prop :=
  okL S As → ∀ (ad : Nat → Nat) (z0 n0 : Nat), vx_Met l y [Cond.codeWith y cc nL ret hh] { frames := fr, cells := (xH X).size + nB1 - z0, slots := slotSum (xH X) + nB2 - n0, locals := lo }
    (fun v U => v = (As.map (cv ad)).toArray ∧ KK X K U ∧ Wd X S ad U.heap ∧ U.heap.size = z0 ∧ slotSum U.heap = n0)
    (QcX X S ad rv Qa) (XcX X S ad Qa) ((xH X).size + nB1 - z0) (slotSum (xH X) + nB2 - n0) (fun q => (xH X).size ≤ q)
section HC
variable {X : Cx} {K : KL} {p : Program} {l : Launch} {e : Env} {R : Room} {s : State} {m : MethodId} {args : Array Value} {below : List Frame} {meth : Method} {c : Code} {nL fr lo : Nat} {Q : State → Prop} {S0 S : Sg} {ad0 : Nat → Nat}
variable {cc : ByteArray} {own : String} {pc : Nat} {lv : List (Nat × Value)} {st : List Value} {rv : Int32 → Option Value} {Qa : Nat → Int32 → Sg → Prop} {hh : List (Nat × Nat × Nat × Nat)}
/-- caught: the exception goes to a local that nobody reads, and the walk goes on with no local known -/
theorem VX_catchW (C : Cn X K p l R s m meth c cc own nL fr lo) {k : Nat} (ht : c.exceptionTable.toList = tableOf hh) (pre : List ExceptionTableEntry) (x : ExceptionTableEntry) (suf : List ExceptionTableEntry) (hsplit : tableOf hh = pre ++ x :: suf)
    (hpass : ∀ z ∈ pre, z.catchType ≠ 0 ∧ ∃ nm : String, Cond.classLink own z.catchType nm ∈ gW ∧ (exn k, nm) ∈ K.2.1) (hx : covers x pc = true) (h0 : x.catchType ≠ 0) (hlink : Cond.classLink own x.catchType (exn k) ∈ gW) (hcast : (exn k, exn k) ∈ K.1)
    (kk : ∀ (ad : Nat → Nat) (H : Heap) (locs : List Loc) (ls : Array Slot) (q : Addr), ext S0 ad0 S ad → Wd X S ad H → (∀ z ∈ locs, (xH X).size ≤ z.base) → s.heap.size ≤ H.size → slotSum s.heap ≤ slotSum H → lv_has ls nL (lvc ad lv) →
      W p l e R s m args below meth c H locs (H.size - s.heap.size) (slotSum H - slotSum s.heap) Q (F0 m x.handlerPc ls [.ref q])) : VX X p l e R s m args below meth c nL Q S0 ad0 S pc lv (exn k) := by
  intro h2 ad H locs ls stc q ce hE hW hL z1 z2 hl hce hcv hcl
  have KKs := C.2.2.2.2.1
  have hc : (Cond.castable (exn k) (exn k)).before args s = true := KKs.2.2.1 _ hcast
  exact vx_catch (own := own) (name := exn k) C.2.2.2.1 pre x suf (ht.trans hsplit) (fun z hz => by
    obtain ⟨q1, nm, q2, q3⟩ := hpass z hz
    exact Or.inr ⟨q1, nm, KK.w KKs q2 args, KKs.2.2.2.1 _ q3⟩) hx h0 (KK.w KKs hlink args) hc hce hcv hcl (kk ad H locs ls q hE hW hL z1 z2 hl)
theorem VX_catch (C : Cn X K p l R s m meth c cc own nL fr lo) {k i : Nat} (ht : c.exceptionTable.toList = tableOf hh) (pre : List ExceptionTableEntry) (x : ExceptionTableEntry) (suf : List ExceptionTableEntry) (hsplit : tableOf hh = pre ++ x :: suf)
    (hpass : ∀ z ∈ pre, z.catchType ≠ 0 ∧ ∃ nm : String, Cond.classLink own z.catchType nm ∈ gW ∧ (exn k, nm) ∈ K.2.1) (hx : covers x pc = true) (h0 : x.catchType ≠ 0) (hlink : Cond.classLink own x.catchType (exn k) ∈ gW) (hcast : (exn k, exn k) ∈ K.1)
    (hdg : decode cc x.handlerPc = .ok (.astore i, 2)) (hn : i < nL) (kk : V X p l e R s m args below meth c nL Q S0 ad0 (S) (x.handlerPc + 2) ([]) ([])) : VX X p l e R s m args below meth c nL Q S0 ad0 S pc lv (exn k) :=
  VX_catchW C ht pre x suf hsplit hpass hx h0 hlink hcast (fun ad H locs ls q hE hW hL z1 z2 hl => lv_astore C.1 C.2.1 hdg hl hn rfl (fun ls1 hl1 => kk trivial (fun q hq => absurd hq List.not_mem_nil) ad H locs ls1 hE hW hL z1 z2 (lv_sub hl1 [] rfl)))
theorem VX_catch_n (C : Cn X K p l R s m meth c cc own nL fr lo) {k i : Nat} {k9 : Fin 4} (ht : c.exceptionTable.toList = tableOf hh) (pre : List ExceptionTableEntry) (x : ExceptionTableEntry) (suf : List ExceptionTableEntry) (hsplit : tableOf hh = pre ++ x :: suf)
    (hpass : ∀ z ∈ pre, z.catchType ≠ 0 ∧ ∃ nm : String, Cond.classLink own z.catchType nm ∈ gW ∧ (exn k, nm) ∈ K.2.1) (hx : covers x pc = true) (h0 : x.catchType ≠ 0) (hlink : Cond.classLink own x.catchType (exn k) ∈ gW) (hcast : (exn k, exn k) ∈ K.1)
    (hdg : decode cc x.handlerPc = .ok (.astore_n k9, 1)) (hi : (k9 : Nat) = i) (hn : i < nL) (kk : V X p l e R s m args below meth c nL Q S0 ad0 (S) (x.handlerPc + 1) ([]) ([])) : VX X p l e R s m args below meth c nL Q S0 ad0 S pc lv (exn k) :=
  VX_catchW C ht pre x suf hsplit hpass hx h0 hlink hcast (fun ad H locs ls q hE hW hL z1 z2 hl => lv_astore_n C.1 C.2.1 hdg hi hl hn rfl (fun ls1 hl1 => kk trivial (fun q hq => absurd hq List.not_mem_nil) ad H locs ls1 hE hW hL z1 z2 (lv_sub hl1 [] rfl)))
theorem CTH_pre {y : MethodName} {As : List Value} {ad : Nat → Nat} {H : Heap} (C : Cn X K p l R s m meth c cc own nL fr lo) (hW : Wd X S ad H) :
    FrameBlind (fun (v : Array Value) (U : State) => v = (As.map (cv ad)).toArray ∧ KK X K U ∧ Wd X S ad U.heap ∧ U.heap.size = H.size ∧ slotSum U.heap = slotSum H) ∧ ∀ U : State, U.heap = H → s.WarmedH U.vm → ((As.map (cv ad)).toArray = (As.map (cv ad)).toArray ∧ KK X K U ∧ Wd X S ad U.heap ∧ U.heap.size = H.size ∧ slotSum U.heap = slotSum H) := by
  refine ⟨fun a U g mk q => ⟨q.1, KK.warm (s := U) (U := U.calling g mk a) (State.WarmedH.refl U) q.2.1, q.2.2⟩, fun U hU hWm => ⟨rfl, KK.warm hWm C.2.2.2.2.1, by rw [hU]; exact hW, by rw [hU], by rw [hU]⟩⟩
/-- a static call of a method with handlers -/
theorem V_callH (C : Cn X K p l R s m meth c cc own nL fr lo) {index fr' lo' maxL : Nat} {y : MethodName} {bytes : ByteArray} {ret : Option FieldType} {As rest : List Value} {rvg : Int32 → Option Value} {Qg : Nat → Int32 → Sg → Prop} (ct9 : CTH X K l y bytes maxL ret hh fr' lo' As rvg S Qg)
    (w1 : Cond.methodLink own index y ∈ gW) (w2 : Cond.static y ∈ gW) (w4 : Cond.codeWith y bytes maxL ret hh ∈ gW) (w5 : Cond.initialized y.cls ∈ gW) (hy : y.cls ≠ "java/lang/invoke/MethodHandle" ∧ y.cls ≠ "java/lang/invoke/VarHandle" ∧ (parseMethodDescriptor y.desc).map (fun d => d.parameters.length) = some As.length)
    (hR : fr' + 1 ≤ fr ∧ 8 + (maxL + 11) + lo' ≤ lo) (hst : st = As.reverse ++ rest) (hsum : (rest.map fun v => v.category).sum ≤ 8) (hdg : decode cc pc = .ok (.invokestatic index, 3))
    (kr : ∀ v S', Qg 0 v S' → V X p l e R s m args below meth c nL Q S0 ad0 (S') (pc + 3) (lv) ((rvg v).toList ++ rest)) (kx : ∀ k S', (k = 1 ∨ k = 2 ∨ k = 3) → Qg k 0 S' → VX X p l e R s m args below meth c nL Q S0 ad0 S' pc lv (exn k)) : V X p l e R s m args below meth c nL Q S0 ad0 (S) (pc) (lv) (st) := by
  intro h1 h2 ad H locs ls hE hW hL z1 z2 hl
  subst hst
  have hA : okL S As := okL_rev.mp (okL_app.mp h1).1
  have hM := ct9 hA ad H.size (slotSum H)
  have hP := CTH_pre (y := y) (As := As) C hW
  have KKs := C.2.2.2.2.1
  refine V_run hE hL hl h2 (okL_app.mp h1).2 (vx_runSX (Ts := []) (hh := hh) (As := As.map (cv ad)) (n := As.length) ⟨C.1, C.2.1, C.2.2.1, C.2.2.2.1, fun w hw => absurd hw List.not_mem_nil⟩ hM ⟨⟨rfl, rfl, by rw [C.2.2.2.2.2.2.1]; exact hR.1, by rw [C.2.2.2.2.2.2.2.1]; exact hR.2, fun w hw a' U hU => ?_, List.mem_cons_self⟩, KK.w KKs w4 args, KK.w KKs w5 args, ⟨hy.1, hy.2.1⟩, fun sig h => ?_, KK.w KKs w1 args, KK.w KKs w2 args⟩ hP rfl (by rw [List.length_map]) hl.1 (by rw [List.map_append, List.map_reverse]) (lv_room (by rw [cv_sum]; exact hsum)) hdg (room_call C hW z1 z2)) kr kx
  · rw [List.mem_singleton.mp hw]; exact word_at hU (gW_good w4) (KK.w KKs w4 args)
  · have h9 := hy.2.2; rw [h] at h9; exact (Option.some.inj h9).symm
theorem CTH_ofV {y : MethodName} {ret : Option FieldType} {As : List Value} (hy : plainName y.cls = true) (hlen : (lg_sl As).length ≤ nL) (hown : y.cls = own) (hst : l.stackTraces = false)
    (body : ∀ (p : Program) (e : Env) (R : Room) (s : State) (m : MethodId) (args : Array Value) (below : List Frame) (meth : Method) (c : Code) (ad0 : Nat → Nat), Cn X K p l R s m meth c cc own nL fr lo → meth.sig.returnType = ret → meth.name = y.name → c.exceptionTable.toList = tableOf hh →
      V X p l e R s m args below meth c nL (QM X below args s S ad0 rv Qa) S ad0 S 0 (lv_args 0 As) []) : CTH X K l y cc nL ret hh fr lo As rv S Qa := by
  intro hok ad z0 n0
  refine vx_ofWH (cc := cc) (maxL := nL) (ret := ret) (hh := hh) hy rfl ?_
  intro p e s m args below meth c s₁ B hml hv
  have htab : c.exceptionTable.toList = tableOf hh := vx_table (x := y) B (atoms_spec (ws := [Cond.codeWith y cc nL ret hh]) B.pre _ List.mem_cons_self)
  obtain ⟨rfl, hKK, hW, rfl, rfl⟩ := hv
  have hsz : s.heap.size ≤ (xH X).size + nB1 ∧ slotSum s.heap ≤ slotSum (xH X) + nB2 := by
    obtain ⟨-, -, a3, a4, a5, a6, -⟩ := id hW
    exact ⟨by omega, by omega⟩
  have C : Cn X K p l (headSpec [Cond.codeWith y cc nL ret hh] { frames := fr, cells := (xH X).size + nB1 - s.heap.size, slots := slotSum (xH X) + nB2 - slotSum s.heap, locals := lo }).room s m meth c cc own nL fr lo :=
    ⟨B.exec, B.bytes, hml, by rw [← hown]; exact findClass_of_methodNamed B.named, hKK, B.notSynchronized, rfl, rfl, rfl, rfl, hst, hW.1, hW.2.1, hsz.1, hsz.2⟩
  have hb := body p e _ s m (As.map (cv ad)).toArray below meth c ad C B.returns (name_of_methodNamed B.named B.method).1 htab trivial (okl_args As 0 hok) ad s.heap [] _ ext_rf hW (fun z hz => absurd hz List.not_mem_nil) (Nat.le_refl _) (Nat.le_refl _) (by rw [← cv_args]; exact lv_entry (As.map (cv ad)) (n := nL) (by rw [cv_lg]; exact hlen))
  rw [Nat.sub_self, Nat.sub_self] at hb
  rw [lg_entry_eq]
  exact hb
end HC
