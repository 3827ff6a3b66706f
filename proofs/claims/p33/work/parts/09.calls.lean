/-! contracts (CT), a method's ends, calls, throws -/
def exn (k : Nat) : String := if k = 1 then "java/lang/IllegalArgumentException" else if k = 2 then "java/lang/IllegalStateException" else "java/lang/IndexOutOfBoundsException"
def QcX (X : Cx) (S0 : Sg) (ad0 : Nat → Nat) (rv : Int32 → Option Value) (Qa : Nat → Int32 → Sg → Prop) : Array Value → State → Outcome → State → Prop := fun _ _ o t =>
  ∃ (v : Int32) (S' : Sg) (ad' : Nat → Nat), o = .returned ((rv v).map (cv ad')) ∧ Wd X S' ad' t.heap ∧ ext S0 ad0 S' ad' ∧ (∀ w, rv v = some w → okv S' w) ∧ Qa 0 v S'
def XcX (X : Cx) (S0 : Sg) (ad0 : Nat → Nat) (Qa : Nat → Int32 → Sg → Prop) : String → State → State → Prop := fun E _ t =>
  ∃ (k : Nat) (S' : Sg) (ad' : Nat → Nat), E = exn k ∧ (k = 1 ∨ k = 2 ∨ k = 3) ∧ Wd X S' ad' t.heap ∧ ext S0 ad0 S' ad' ∧ Qa k 0 S'
def QM (X : Cx) (below : List Frame) (args : Array Value) (s : State) (S0 : Sg) (ad0 : Nat → Nat) (rv : Int32 → Option Value) (Qa : Nat → Int32 → Sg → Prop) : State → Prop :=
  vx_MQ below (QcX X S0 ad0 rv Qa) (XcX X S0 ad0 Qa) args s ((xH X).size + nB1 - s.heap.size) (slotSum (xH X) + nB2 - slotSum s.heap) (fun q => (xH X).size ≤ q)
def CT (X : Cx) (K : KL) (l : Launch) (y : MethodName) (cc : ByteArray) (nL : Nat) (ret : Option FieldType) (fr lo : Nat) (As : List Value) (rv : Int32 → Option Value) (S : Sg) (Qa : Nat → Int32 → Sg → Prop) : Prop :=
  okL S As → ∀ (ad : Nat → Nat) (z0 n0 : Nat), vx_Met l y [Cond.code y cc nL ret] { frames := fr, cells := (xH X).size + nB1 - z0, slots := slotSum (xH X) + nB2 - n0, locals := lo }
    (fun v U => v = (As.map (cv ad)).toArray ∧ KK X K U ∧ Wd X S ad U.heap ∧ U.heap.size = z0 ∧ slotSum U.heap = n0)
    (QcX X S ad rv Qa) (XcX X S ad Qa) ((xH X).size + nB1 - z0) (slotSum (xH X) + nB2 - n0) (fun q => (xH X).size ≤ q)
theorem cv_lg (ad : Nat → Nat) (As : List Value) : (lg_sl (As.map (cv ad))).length = (lg_sl As).length := by
  induction As with
  | nil => rfl
  | cons v r ih =>
    show ((if (cv ad v).category = 2 then [Slot.val (cv ad v), .second] else [.val (cv ad v)]) ++ lg_sl (r.map (cv ad))).length = ((if v.category = 2 then [Slot.val v, .second] else [.val v]) ++ lg_sl r).length
    rw [cv_cat, List.length_append, List.length_append, ih]
    split <;> rfl
theorem cv_args (ad : Nat → Nat) (As : List Value) : ∀ i, lv_args i (As.map (cv ad)) = lvc ad (lv_args i As) := by
  induction As with
  | nil => intro i; rfl
  | cons v r ih =>
    intro i
    show (i, cv ad v) :: lv_args (if (cv ad v).category = 2 then i + 2 else i + 1) (r.map (cv ad)) = (i, cv ad v) :: lvc ad (lv_args (if v.category = 2 then i + 2 else i + 1) r)
    rw [cv_cat, ih]
theorem okl_args {S : Sg} : ∀ (As : List Value) (i : Nat), okL S As → okl S (lv_args i As)
  | [], _, _ => fun q h => absurd h List.not_mem_nil
  | v :: r, i, h => fun q hq => (List.mem_cons.mp hq).elim (fun e => by rw [e]; exact h.1) (okl_args r _ h.2 q)
theorem okL_app {S : Sg} {a b : List Value} : okL S (a ++ b) ↔ okL S a ∧ okL S b := by
  rw [okL_mem, okL_mem, okL_mem]
  exact ⟨fun h => ⟨fun v hv => h v (List.mem_append_left _ hv), fun v hv => h v (List.mem_append_right _ hv)⟩, fun h v hv => (List.mem_append.mp hv).elim (h.1 v) (h.2 v)⟩
theorem okL_rev {S : Sg} {a : List Value} : okL S a.reverse ↔ okL S a := by
  rw [okL_mem, okL_mem]
  exact ⟨fun h v hv => h v (List.mem_reverse.mpr hv), fun h v hv => h v (List.mem_reverse.mp hv)⟩
theorem cv_sum (ad : Nat → Nat) (st : List Value) : ((st.map (cv ad)).map fun v => v.category).sum = (st.map fun v => v.category).sum := by
  rw [List.map_map]
  congr 1
  exact List.map_congr_left fun v _ => cv_cat ad v
section RC
variable {X : Cx} {K : KL} {p : Program} {l : Launch} {e : Env} {R : Room} {s : State} {m : MethodId} {args : Array Value} {below : List Frame} {meth : Method} {c : Code} {nL fr lo : Nat} {Q : State → Prop} {S0 S : Sg} {ad0 : Nat → Nat}
variable {cc : ByteArray} {own : String} {pc : Nat} {lv : List (Nat × Value)} {st : List Value} {rv : Int32 → Option Value} {Qa : Nat → Int32 → Sg → Prop}
theorem st_books {T : State} {locs : List Loc} {cells slots : Nat} (Y : Stand p l e R s m args below meth c T locs cells slots) : T.slotsUsed = slotSum T.heap ∧ s.slotsUsed = slotSum s.heap := by
  have h0 : s.slotsTrue = true := by
    have h := Y.room
    simp only [State.hasRoom, Bool.and_eq_true] at h
    exact h.2
  exact ⟨(State.slotsTrue_iff T).mp Y.book, (State.slotsTrue_iff s).mp h0⟩
theorem st_mono {T : State} {locs : List Loc} {cells slots : Nat} (Y : Stand p l e R s m args below meth c T locs cells slots) : s.heap.size ≤ T.heap.size ∧ slotSum s.heap ≤ slotSum T.heap := by
  obtain ⟨b1, b2⟩ := st_books Y
  refine ⟨Y.same.2.1, ?_⟩
  have h4 : T.slotsUsed = s.slotsUsed + _ := Y.same.2.2.2.1
  omega
theorem st_tight {T : State} {locs : List Loc} {cells slots k n : Nat} (h1 : T.heap.size ≤ s.heap.size + k) (h2 : slotSum T.heap ≤ slotSum s.heap + n) (Y : Stand p l e R s m args below meth c T locs cells slots) : Stand p l e R s m args below meth c T locs k n := by
  obtain ⟨b1, b2⟩ := st_books Y
  have h4 : T.slotsUsed = s.slotsUsed + ((T.heap.toList.drop s.heap.size).map (·.slots.size)).sum := Y.same.2.2.2.1
  exact { Y with same := ⟨Y.same.1, Y.same.2.1, h1, Y.same.2.2.2.1, (by show ((T.heap.toList.drop s.heap.size).map (·.slots.size)).sum ≤ n; omega), Y.same.2.2.2.2.2⟩ }
/-- the bounds that a world's numbers give -/
theorem Wd_room {ad : Nat → Nat} {H : Heap} (hW : Wd X S ad H) : H.size - s.heap.size ≤ (xH X).size + nB1 - s.heap.size ∧ slotSum H - slotSum s.heap ≤ slotSum (xH X) + nB2 - slotSum s.heap := by
  obtain ⟨-, -, a3, a4, a5, a6, -⟩ := hW
  exact ⟨by omega, by omega⟩
theorem V_iret (C : Cn X K p l R s m meth c cc own nL fr lo) (hr : meth.sig.returnType = some .int) {v : Int32} (hrv : rv v = some (.int v)) (h : Qa 0 v S) (hdg : decode cc pc = .ok (.ireturn, 1)) : V X p l e R s m args below meth c nL (QM X below args s S0 ad0 rv Qa) S0 ad0 (S) (pc) (lv) ([.int v]) := by
  intro h1 h2 ad H locs ls hE hW hL z1 z2 hl
  obtain ⟨r1, r2⟩ := Wd_room (s := s) hW
  refine W.widen r1 r2 (vx_ret (W.iret (v := v) C.1 C.2.1 hr (fun t ht _ => ⟨v, S, ad, by rw [hrv]; rfl, by rw [ht]; exact hW, hE, fun w hw => ?_, h⟩) hL hdg C.2.2.2.2.2.1))
  rw [hrv] at hw; cases hw; trivial
theorem V_zret (C : Cn X K p l R s m meth c cc own nL fr lo) (hr : meth.sig.returnType = some .boolean) {v : Int32} (hv : v = 0 ∨ v = 1) (hrv : rv v = some (.int v)) (h : Qa 0 v S) (hdg : decode cc pc = .ok (.ireturn, 1)) : V X p l e R s m args below meth c nL (QM X below args s S0 ad0 rv Qa) S0 ad0 (S) (pc) (lv) ([.int v]) := by
  intro h1 h2 ad H locs ls hE hW hL z1 z2 hl
  obtain ⟨r1, r2⟩ := Wd_room (s := s) hW
  refine W.widen r1 r2 (vx_ret (W.zret (v := v) C.1 C.2.1 hr (by rcases hv with rfl | rfl <;> rfl) (fun t ht _ => ⟨v, S, ad, by rw [hrv]; rfl, by rw [ht]; exact hW, hE, fun w hw => ?_, h⟩) hL hdg C.2.2.2.2.2.1))
  rw [hrv] at hw; cases hw; trivial
theorem V_vret (C : Cn X K p l R s m meth c cc own nL fr lo) (hr : meth.sig.returnType = none) (hrv : rv 0 = none) (h : Qa 0 0 S) (hdg : decode cc pc = .ok (.return_, 1)) : V X p l e R s m args below meth c nL (QM X below args s S0 ad0 rv Qa) S0 ad0 (S) (pc) (lv) ([]) := by
  intro h1 h2 ad H locs ls hE hW hL z1 z2 hl
  obtain ⟨r1, r2⟩ := Wd_room (s := s) hW
  refine W.widen r1 r2 (vx_ret (W.vret C.1 C.2.1 hr (fun t ht _ => ⟨0, S, ad, by rw [hrv]; rfl, by rw [ht]; exact hW, hE, fun w hw => ?_, h⟩) hL hdg C.2.2.2.2.2.1))
  rw [hrv] at hw; cases hw
theorem V_aret (C : Cn X K p l R s m meth c cc own nL fr lo) {n : String} (hr : meth.sig.returnType = some (.object n)) {v : Int32} {id : Nat} (hrv : rv v = some (.ref id)) (h : Qa 0 v S) (hdg : decode cc pc = .ok (.areturn, 1)) : V X p l e R s m args below meth c nL (QM X below args s S0 ad0 rv Qa) S0 ad0 (S) (pc) (lv) ([.ref id]) := by
  intro h1 h2 ad H locs ls hE hW hL z1 z2 hl
  obtain ⟨r1, r2⟩ := Wd_room (s := s) hW
  refine W.widen r1 r2 (vx_ret (W.aret (v := .ref (ad id)) C.1 C.2.1 hr (Or.inl ⟨_, rfl⟩) (Or.inr ⟨_, rfl⟩) (fun t ht _ => ⟨v, S, ad, by rw [hrv]; rfl, by rw [ht]; exact hW, hE, fun w hw => ?_, h⟩) hL hdg C.2.2.2.2.2.1))
  rw [hrv] at hw; cases hw; exact h1.1
/-- the walk of an exception E that lies over this frame -/
def VX (X : Cx) (p : Program) (l : Launch) (e : Env) (R : Room) (s : State) (m : MethodId) (args : Array Value) (below : List Frame) (meth : Method) (c : Code) (nL : Nat) (Q : State → Prop) (S0 : Sg) (ad0 : Nat → Nat) (S : Sg) (pc : Nat) (lv : List (Nat × Value)) (E : String) : Prop :=
  okl S lv → ∀ (ad : Nat → Nat) (H : Heap) (locs : List Loc) (ls : Array Slot) (stc : List Value) (q : Addr) (ce : Cell), ext S0 ad0 S ad → Wd X S ad H → (∀ z ∈ locs, (xH X).size ≤ z.base) → s.heap.size ≤ H.size → slotSum s.heap ≤ slotSum H → lv_has ls nL (lvc ad lv) → H[q]? = some ce → ce.vm = .none → s.vm.findClass E = some ce.cls →
  vx_W p l e R s m args below meth c H locs (H.size - s.heap.size) (slotSum H - slotSum s.heap) Q (F0 m pc ls stc) q
theorem VX_out (C : Cn X K p l R s m meth c cc own nL fr lo) (htab : ∀ x ∈ c.exceptionTable.toList, False) {k : Nat} (hk : k = 1 ∨ k = 2 ∨ k = 3) (h : Qa k 0 S) : VX X p l e R s m args below meth c nL (QM X below args s S0 ad0 rv Qa) S0 ad0 S pc lv (exn k) := by
  intro h2 ad H locs ls stc q ce hE hW hL z1 z2 hl hce hcv hcl
  obtain ⟨r1, r2⟩ := Wd_room (s := s) hW
  exact vx_out (fun x hx => (htab x hx).elim) C.2.2.2.2.2.1 hce hcv hcl (fun t ht _ => ⟨k, S, ad, rfl, hk, by rw [ht]; exact hW, hE, h⟩) hL r1 r2
/-- behind a call -/
theorem V_run {ad : Nat → Nat} {H : Heap} {locs : List Loc} {ls : Array Slot} {mc ms : Nat} {stk : List Value} {rest : List Value} {rvg : Int32 → Option Value} {Qg : Nat → Int32 → Sg → Prop} {aa : Array Value} (hE : ext S0 ad0 S ad) (hL : ∀ z ∈ locs, (xH X).size ≤ z.base) (hl : lv_has ls nL (lvc ad lv)) (hlv : okl S lv) (hrest : okL S rest)
    (hr : vx_Run p l e R s m args below meth c H locs (H.size - s.heap.size) (slotSum H - slotSum s.heap) mc ms (F0 m pc ls stk) (rest.map (cv ad)) (QcX X S ad rvg Qg aa) (XcX X S ad Qg) (fun q => (xH X).size ≤ q))
    (kr : ∀ v S', Qg 0 v S' → V X p l e R s m args below meth c nL Q S0 ad0 (S') (pc + 3) (lv) ((rvg v).toList ++ rest)) (kx : ∀ k S', (k = 1 ∨ k = 2 ∨ k = 3) → Qg k 0 S' → VX X p l e R s m args below meth c nL Q S0 ad0 S' pc lv (exn k)) :
    W p l e R s m args below meth c H locs (H.size - s.heap.size) (slotSum H - slotSum s.heap) Q (F0 m pc ls stk) := by
  intro T hT Y
  rcases hr T hT Y with ⟨v, st₀, t, T', L, h0, Y', hL', e1, e2, ⟨v', S', ad', hv, hW', hE', hok, hq⟩, stp⟩ | ⟨q, st₀, t, T', L, E, ce, h0, Y', hL', e1, e2, ⟨k, S', ad', rfl, hk, hW', hE', hq⟩, hce, hcv, hcl, stp⟩
  · have hv2 : v = (rvg v').map (cv ad') := Outcome.returned.inj hv
    subst hv2
    have hW2 : Wd X S' ad' T'.heap := by rw [e1]; exact hW'
    obtain ⟨m1, m2⟩ := st_mono Y'
    have hst : ((rvg v').toList ++ rest).map (cv ad') = ((rvg v').map (cv ad')).toList ++ rest.map (cv ad) := by
      rw [List.map_append, ext_map hE' hrest]
      cases rvg v' <;> rfl
    have kk := kr v' S' hq (okL_app.mpr ⟨okL_mem.mpr (fun w hw => hok w (Option.mem_toList.mp hw)), ext_okL hE' hrest⟩) (ext_okl hE' hlv) ad' T'.heap (locs ++ L) ls (ext_tr hE hE') hW2 (fun z hz => (List.mem_append.mp hz).elim (hL z) (hL' z)) m1 m2 (by rw [ext_lvc hE' hlv]; exact hl)
    rw [hst] at kk
    obtain ⟨t2, a1, b1⟩ := kk T' rfl (st_tight (by omega) (by omega) Y')
    exact ⟨t2, stp t2 a1, b1⟩
  · have hW2 : Wd X S' ad' T'.heap := by rw [e1]; exact hW'
    obtain ⟨m1, m2⟩ := st_mono Y'
    have kk := kx k S' hk hq (ext_okl hE' hlv) ad' T'.heap (locs ++ L) ls (rest.map (cv ad)) q ce (ext_tr hE hE') hW2 (fun z hz => (List.mem_append.mp hz).elim (hL z) (hL' z)) m1 m2 (by rw [ext_lvc hE' hlv]; exact hl) (by rw [e1]; exact hce) hcv hcl
    obtain ⟨t2, a1, b1⟩ := kk T' rfl (st_tight (by omega) (by omega) Y')
    exact ⟨t2, stp.trans a1, b1⟩
theorem CT_pre {y : MethodName} {As : List Value} {ad : Nat → Nat} {H : Heap} {bytes : ByteArray} {maxL : Nat} {ret : Option FieldType} (C : Cn X K p l R s m meth c cc own nL fr lo) (hW : Wd X S ad H) :
    FrameBlind (fun (v : Array Value) (U : State) => v = (As.map (cv ad)).toArray ∧ KK X K U ∧ Wd X S ad U.heap ∧ U.heap.size = H.size ∧ slotSum U.heap = slotSum H) ∧ ∀ U : State, U.heap = H → s.WarmedH U.vm → ((As.map (cv ad)).toArray = (As.map (cv ad)).toArray ∧ KK X K U ∧ Wd X S ad U.heap ∧ U.heap.size = H.size ∧ slotSum U.heap = slotSum H) := by
  refine ⟨fun a U g mk q => ⟨q.1, KK.warm (s := U) (U := U.calling g mk a) (State.WarmedH.refl U) q.2.1, q.2.2⟩, fun U hU hWm => ⟨rfl, KK.warm hWm C.2.2.2.2.1, by rw [hU]; exact hW, by rw [hU], by rw [hU]⟩⟩
theorem room_call {ad : Nat → Nat} {H : Heap} (C : Cn X K p l R s m meth c cc own nL fr lo) (hW : Wd X S ad H) (z1 : s.heap.size ≤ H.size) (z2 : slotSum s.heap ≤ slotSum H) : H.size - s.heap.size + ((xH X).size + nB1 - H.size) ≤ R.cells ∧ slotSum H - slotSum s.heap + (slotSum (xH X) + nB2 - slotSum H) ≤ R.slots := by
  obtain ⟨-, -, -, -, -, -, -, -, c1, c2, -⟩ := C
  obtain ⟨-, -, a3, a4, a5, a6, -⟩ := hW
  exact ⟨by rw [c1]; omega, by rw [c2]; omega⟩
theorem V_callV (C : Cn X K p l R s m meth c cc own nL fr lo) {Cc : String} {index ci fr' lo' maxL b : Nat} {y : MethodName} {bytes : ByteArray} {ret : Option FieldType} {As rest fs : List Value} {rvg : Int32 → Option Value} {Qg : Nat → Int32 → Sg → Prop} (ct9 : CT X K l y bytes maxL ret fr' lo' (.ref b :: As) rvg S Qg)
    (w1 : Cond.methodLink own index y ∈ gW) (w2 : Cond.instanceMethod y ∈ gW) (w3 : Cond.selects Cc y y ∈ gW) (w4 : Cond.code y bytes maxL ret ∈ gW) (w5 : Cond.initialized y.cls ∈ gW) (hy : y.cls ≠ "java/lang/invoke/MethodHandle" ∧ y.cls ≠ "java/lang/invoke/VarHandle" ∧ (parseMethodDescriptor y.desc).map (fun d => d.parameters.length) = some As.length)
    (hb9 : b % 64 < 61) (hct : ct X S b = .inr (ci, fs)) {Tt : u_T} {N : Nat} (hci : vwCl[ci]? = some (Cc, Tt, N)) (hR : fr' + 1 ≤ fr ∧ 8 + (maxL + 11) + lo' ≤ lo) (hst : st = As.reverse ++ .ref b :: rest) (hsum : (rest.map fun v => v.category).sum ≤ 8) (hdg : decode cc pc = .ok (.invokevirtual index, 3))
    (kr : ∀ v S', Qg 0 v S' → V X p l e R s m args below meth c nL Q S0 ad0 (S') (pc + 3) (lv) ((rvg v).toList ++ rest)) (kx : ∀ k S', (k = 1 ∨ k = 2 ∨ k = 3) → Qg k 0 S' → VX X p l e R s m args below meth c nL Q S0 ad0 S' pc lv (exn k)) : V X p l e R s m args below meth c nL Q S0 ad0 (S) (pc) (lv) (st) := by
  intro h1 h2 ad H locs ls hE hW hL z1 z2 hl
  subst hst
  have hA : okL S (.ref b :: As) := ⟨(okL_app.mp h1).2.1, okL_rev.mp (okL_app.mp h1).1⟩
  have hM := ct9 hA ad H.size (slotSum H)
  have hP := CT_pre (y := y) (As := .ref b :: As) (bytes := bytes) (maxL := maxL) (ret := ret) C hW
  have KKs := C.2.2.2.2.1
  refine V_run hE hL hl h2 (okL_app.mp h1).2.2 (vx_runV (Ts := []) (As := As.map (cv ad)) (b := ad b) (n := As.length) (C := Cc) ⟨C.1, C.2.1, C.2.2.1, C.2.2.2.1, fun w hw => absurd hw List.not_mem_nil⟩ hM ⟨⟨rfl, rfl, by rw [C.2.2.2.2.2.2.1]; exact hR.1, by rw [C.2.2.2.2.2.2.2.1]; exact hR.2, fun w hw a' U hU => ?_, List.mem_cons_self, KK.w KKs w4 args, KK.w KKs w5 args, ⟨hy.1, hy.2.1⟩, fun sig h => ?_, KK.w KKs w1 args⟩, KK.w KKs w2 args, KK.w KKs w3 args⟩ ⟨hP.1, va_recv (q0 := 0) KKs.1 (Wd_at hW (okv_dm hA.1 hb9) hct) hci rfl, hP.2⟩ rfl (by rw [List.length_map]) hl.1 (by rw [List.map_append, List.map_reverse]; rfl) (lv_room (by rw [cv_sum]; exact hsum)) hdg (room_call C hW z1 z2)) kr kx
  · rw [List.mem_singleton.mp hw]; exact word_at hU (gW_good w4) (KK.w KKs w4 args)
  · have h9 := hy.2.2; rw [h] at h9; exact (Option.some.inj h9).symm
theorem V_callS (C : Cn X K p l R s m meth c cc own nL fr lo) {index fr' lo' maxL : Nat} {y : MethodName} {bytes : ByteArray} {ret : Option FieldType} {As rest : List Value} {rvg : Int32 → Option Value} {Qg : Nat → Int32 → Sg → Prop} (ct9 : CT X K l y bytes maxL ret fr' lo' As rvg S Qg)
    (w1 : Cond.methodLink own index y ∈ gW) (w2 : Cond.static y ∈ gW) (w4 : Cond.code y bytes maxL ret ∈ gW) (w5 : Cond.initialized y.cls ∈ gW) (hy : y.cls ≠ "java/lang/invoke/MethodHandle" ∧ y.cls ≠ "java/lang/invoke/VarHandle" ∧ (parseMethodDescriptor y.desc).map (fun d => d.parameters.length) = some As.length)
    (hR : fr' + 1 ≤ fr ∧ 8 + (maxL + 11) + lo' ≤ lo) (hst : st = As.reverse ++ rest) (hsum : (rest.map fun v => v.category).sum ≤ 8) (hdg : decode cc pc = .ok (.invokestatic index, 3))
    (kr : ∀ v S', Qg 0 v S' → V X p l e R s m args below meth c nL Q S0 ad0 (S') (pc + 3) (lv) ((rvg v).toList ++ rest)) (kx : ∀ k S', (k = 1 ∨ k = 2 ∨ k = 3) → Qg k 0 S' → VX X p l e R s m args below meth c nL Q S0 ad0 S' pc lv (exn k)) : V X p l e R s m args below meth c nL Q S0 ad0 (S) (pc) (lv) (st) := by
  intro h1 h2 ad H locs ls hE hW hL z1 z2 hl
  subst hst
  have hA : okL S As := okL_rev.mp (okL_app.mp h1).1
  have hM := ct9 hA ad H.size (slotSum H)
  have hP := CT_pre (y := y) (As := As) (bytes := bytes) (maxL := maxL) (ret := ret) C hW
  have KKs := C.2.2.2.2.1
  refine V_run hE hL hl h2 (okL_app.mp h1).2 (vx_runS (Ts := []) (As := As.map (cv ad)) (n := As.length) ⟨C.1, C.2.1, C.2.2.1, C.2.2.2.1, fun w hw => absurd hw List.not_mem_nil⟩ hM ⟨⟨rfl, rfl, by rw [C.2.2.2.2.2.2.1]; exact hR.1, by rw [C.2.2.2.2.2.2.2.1]; exact hR.2, fun w hw a' U hU => ?_, List.mem_cons_self, KK.w KKs w4 args, KK.w KKs w5 args, ⟨hy.1, hy.2.1⟩, fun sig h => ?_, KK.w KKs w1 args⟩, KK.w KKs w2 args⟩ hP rfl (by rw [List.length_map]) hl.1 (by rw [List.map_append, List.map_reverse]) (lv_room (by rw [cv_sum]; exact hsum)) hdg (room_call C hW z1 z2)) kr kx
  · rw [List.mem_singleton.mp hw]; exact word_at hU (gW_good w4) (KK.w KKs w4 args)
  · have h9 := hy.2.2; rw [h] at h9; exact (Option.some.inj h9).symm
theorem V_callI (C : Cn X K p l R s m meth c cc own nL fr lo) {index fr' lo' maxL b : Nat} {y : MethodName} {bytes : ByteArray} {As rest : List Value} {rvg : Int32 → Option Value} {Qg : Nat → Int32 → Sg → Prop} (ct9 : CT X K l y bytes maxL none fr' lo' (.ref b :: As) rvg S Qg)
    (w1 : Cond.methodLink own index y ∈ gW) (w2 : Cond.instanceMethod y ∈ gW) (w4 : Cond.code y bytes maxL none ∈ gW) (w5 : Cond.initialized y.cls ∈ gW) (hy1 : y.name = "<init>") (hy : y.cls ≠ "java/lang/invoke/MethodHandle" ∧ y.cls ≠ "java/lang/invoke/VarHandle" ∧ (parseMethodDescriptor y.desc).map (fun d => d.parameters.length) = some As.length)
    (hR : fr' + 1 ≤ fr ∧ 8 + (maxL + 11) + lo' ≤ lo) (hst : st = As.reverse ++ .ref b :: rest) (hsum : (rest.map fun v => v.category).sum ≤ 8) (hdg : decode cc pc = .ok (.invokespecial index, 3))
    (kr : ∀ v S', Qg 0 v S' → V X p l e R s m args below meth c nL Q S0 ad0 (S') (pc + 3) (lv) ((rvg v).toList ++ rest)) (kx : ∀ k S', (k = 1 ∨ k = 2 ∨ k = 3) → Qg k 0 S' → VX X p l e R s m args below meth c nL Q S0 ad0 S' pc lv (exn k)) : V X p l e R s m args below meth c nL Q S0 ad0 (S) (pc) (lv) (st) := by
  intro h1 h2 ad H locs ls hE hW hL z1 z2 hl
  subst hst
  have hA : okL S (.ref b :: As) := ⟨(okL_app.mp h1).2.1, okL_rev.mp (okL_app.mp h1).1⟩
  have hM := ct9 hA ad H.size (slotSum H)
  have hP := CT_pre (y := y) (As := .ref b :: As) (bytes := bytes) (maxL := maxL) (ret := none) C hW
  have KKs := C.2.2.2.2.1
  refine V_run hE hL hl h2 (okL_app.mp h1).2.2 (vx_runI (Ts := []) (As := As.map (cv ad)) (b := ad b) (n := As.length) ⟨C.1, C.2.1, C.2.2.1, C.2.2.2.1, fun w hw => absurd hw List.not_mem_nil⟩ hM ⟨⟨rfl, rfl, by rw [C.2.2.2.2.2.2.1]; exact hR.1, by rw [C.2.2.2.2.2.2.2.1]; exact hR.2, fun w hw a' U hU => ?_, List.mem_cons_self, KK.w KKs w4 args, KK.w KKs w5 args, ⟨hy.1, hy.2.1⟩, fun sig h => ?_, KK.w KKs w1 args⟩, hy1, KK.w KKs w2 args⟩ hP rfl (by rw [List.length_map]) hl.1 (by rw [List.map_append, List.map_reverse]; rfl) (lv_room (by rw [cv_sum]; exact hsum)) hdg (room_call C hW z1 z2)) kr kx
  · rw [List.mem_singleton.mp hw]; exact word_at hU (gW_good w4) (KK.w KKs w4 args)
  · have h9 := hy.2.2; rw [h] at h9; exact (Option.some.inj h9).symm
theorem CT_ofV {y : MethodName} {ret : Option FieldType} {As : List Value} (hy : plainName y.cls = true) (hlen : (lg_sl As).length ≤ nL) (hown : y.cls = own) (hst : l.stackTraces = false)
    (body : ∀ (p : Program) (e : Env) (R : Room) (s : State) (m : MethodId) (args : Array Value) (below : List Frame) (meth : Method) (c : Code) (ad0 : Nat → Nat), Cn X K p l R s m meth c cc own nL fr lo → meth.sig.returnType = ret → meth.name = y.name → (∀ x ∈ c.exceptionTable.toList, False) →
      V X p l e R s m args below meth c nL (QM X below args s S ad0 rv Qa) S ad0 S 0 (lv_args 0 As) []) : CT X K l y cc nL ret fr lo As rv S Qa := by
  intro hok ad z0 n0
  refine vx_ofW (cc := cc) (maxL := nL) (ret := ret) hy rfl ?_
  intro p e s m args below meth c s₁ B hml htab hv
  obtain ⟨rfl, hKK, hW, rfl, rfl⟩ := hv
  have hsz : s.heap.size ≤ (xH X).size + nB1 ∧ slotSum s.heap ≤ slotSum (xH X) + nB2 := by
    obtain ⟨-, -, a3, a4, a5, a6, -⟩ := id hW
    exact ⟨by omega, by omega⟩
  have C : Cn X K p l (headSpec [Cond.code y cc nL ret] { frames := fr, cells := (xH X).size + nB1 - s.heap.size, slots := slotSum (xH X) + nB2 - slotSum s.heap, locals := lo }).room s m meth c cc own nL fr lo :=
    ⟨B.exec, B.bytes, hml, by rw [← hown]; exact findClass_of_methodNamed B.named, hKK, B.notSynchronized, rfl, rfl, rfl, rfl, hst, hW.1, hW.2.1, hsz.1, hsz.2⟩
  have hb := body p e _ s m (As.map (cv ad)).toArray below meth c ad C B.returns (name_of_methodNamed B.named B.method).1 htab trivial (okl_args As 0 hok) ad s.heap [] _ ext_rf hW (fun z hz => absurd hz List.not_mem_nil) (Nat.le_refl _) (Nat.le_refl _) (by rw [← cv_args]; exact lv_entry (As.map (cv ad)) (n := nL) (by rw [cv_lg]; exact hlen))
  rw [Nat.sub_self, Nat.sub_self] at hb
  rw [lg_entry_eq]
  exact hb
end RC
