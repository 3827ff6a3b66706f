/-! what is known of the tables at a state (KK), a method's fixed facts (Cn), the walk judgement V and its plain rows -/
def gW : List Cond := lw_tbl.filter goodWord
theorem gm {w : Cond} (i : Nat) (h : lw_tbl[i]? = some w) (g : goodWord w = true) : w ∈ gW := List.mem_filter.mpr ⟨List.mem_of_getElem? h, g⟩
theorem gW_good {w : Cond} (h : w ∈ gW) : (w.onTables && w.keeps) = true ∨ ∃ ty, w = .arrayClass ty := good_of_word (List.mem_filter.mp h).2
/-- the pairs of classes that a cast or a handler asks; the constructors that the exceptions' own ask; the texts -/
abbrev KL : Type := List (String × String) × List (String × String) × List MethodName × List (String × Nat × String)
def KK (X : Cx) (K : KL) (U : State) : Prop :=
  va_K (xD X) vwCl [(xI X, .int), (xI X, .int), (xI X, .int), (xO X, .object "java/lang/Object")] U ∧
  (∀ w ∈ gW, w.before #[] U = true) ∧ (∀ q ∈ K.1, va_Nw (.castable q.1 q.2) U) ∧ (∀ q ∈ K.2.1, va_Nc q.1 q.2 U) ∧ (∀ y ∈ K.2.2.1, va_Nw (.declares y) U) ∧ (∀ q ∈ K.2.2.2, ∃ a, vk_R q.1 q.2.1 q.2.2 a U) ∧
  vx_Zq Bundle.tN "UNASSIGNED_STACK" Bundle.steD (fun q => (xH X).size ≤ q) U (xH X) ∧ vx_Zq Bundle.tN "SUPPRESSED_SENTINEL" Bundle.listD (fun q => (xH X).size ≤ q) U (xH X) ∧
  va_Z "java/util/ArrayList" "DEFAULTCAPACITY_EMPTY_ELEMENTDATA" "[Ljava/lang/Object;" (.ref (xE X)) (fun q => (xH X).size ≤ q) U (xH X) ∧ (∃ cell : Cell, (xH X)[xE X]? = some cell ∧ cell.slots.size.toInt32 = 0 ∧ U.isArrayOf cell (.object "java/lang/Object") ∧ cell.vm ≠ .unknown) ∧
  va_AO "java/lang/Object" U ∧ va_Nw (.methodLinkNest RX5 11 yX4_init "Platterhouse") U ∧ va_Mi "[Ljava/lang/Object;" (xM X) U ∧ va_Dc U ∧ (∃ (L : Nat) (xs : Nat → Int32), va_X (xB X) L xs U (xH X) ∧ xB X < (xH X).size ∧ L ≤ 260)
theorem KK.w {X : Cx} {K : KL} {U : State} (h : KK X K U) {w : Cond} (hw : w ∈ gW) (a : Array Value) : w.before a U = true := word_at (State.WarmedH.refl U) (gW_good hw) (h.2.1 w hw)
theorem KK.warm {X : Cx} {K : KL} {s U : State} (hW : s.WarmedH U.vm) (h : KK X K s) : KK X K U := by
  obtain ⟨h1, h2, h3, h4, h5, h6, h7, h8, h9, ⟨cell, g1, g2, g3, g4⟩, h10, h11, h12, h13, L9, xs9, hx9, hx8⟩ := h
  exact ⟨va_K.moved hW.alike h1, fun w hw => word_at hW (gW_good hw) (h2 w hw), fun q hq => va_Nw.warmC hW (h3 q hq), fun q hq => (h4 q hq).moved hW.alike, fun y hy => va_Nw.warmD hW (h5 y hy), fun q hq => by obtain ⟨a, ha⟩ := h6 q hq; exact ⟨a, vk_R.warm hW ha⟩,
    vx_Zq.moved hW.alike h7, vx_Zq.moved hW.alike h8, va_Z.moved hW.alike h9, ⟨cell, g1, g2, State.isArrayOf_alike hW.alike g3, g4⟩, va_AO.moved hW.alike h10, va_Nw.warmM hW h11, va_Mi.moved hW.alike h12, va_Dc.moved hW.alike h13, L9, xs9, va_X.moved hW.alike hx9, hx8⟩
/-- a method's fixed facts -/
def Cn (X : Cx) (K : KL) (p : Program) (l : Launch) (R : Room) (s : State) (m : MethodId) (meth : Method) (c : Code) (cc : ByteArray) (own : String) (nL fr lo : Nat) : Prop :=
  p.tables.exec = Jvm.exec ∧ c.code = cc ∧ c.maxLocals = nL ∧ s.vm.findClass own = some m.cls ∧ KK X K s ∧ meth.locks = false ∧ R.frames = fr ∧ R.locals = lo ∧ R.cells = (xH X).size + nB1 - s.heap.size ∧ R.slots = slotSum (xH X) + nB2 - slotSum s.heap ∧ l.stackTraces = false ∧
  (∀ q : Nat, q < (xH X).size → s.heap[q]? = (xH X)[q]?) ∧ (xH X).size ≤ s.heap.size ∧ s.heap.size ≤ (xH X).size + nB1 ∧ slotSum s.heap ≤ slotSum (xH X) + nB2
def V (X : Cx) (p : Program) (l : Launch) (e : Env) (R : Room) (s : State) (m : MethodId) (args : Array Value) (below : List Frame) (meth : Method) (c : Code) (nL : Nat) (Q : State → Prop) (S0 : Sg) (ad0 : Nat → Nat) (S : Sg) (pc : Nat) (lv : List (Nat × Value)) (st : List Value) : Prop :=
  okL S st → okl S lv → ∀ (ad : Nat → Nat) (H : Heap) (locs : List Loc) (ls : Array Slot), ext S0 ad0 S ad → Wd X S ad H → (∀ z ∈ locs, (xH X).size ≤ z.base) → s.heap.size ≤ H.size → slotSum s.heap ≤ slotSum H → lv_has ls nL (lvc ad lv) →
  W p l e R s m args below meth c H locs (H.size - s.heap.size) (slotSum H - slotSum s.heap) Q (F0 m pc ls (st.map (cv ad)))
section RW
variable {X : Cx} {K : KL} {p : Program} {l : Launch} {e : Env} {R : Room} {s : State} {m : MethodId} {args : Array Value} {below : List Frame} {meth : Method} {c : Code} {nL fr lo : Nat} {Q : State → Prop} {S0 S : Sg} {ad0 : Nat → Nat}
variable {cc : ByteArray} {own : String} {pc : Nat} {lv : List (Nat × Value)} {st : List Value}
theorem V_sub (ks : List Nat) {lv' : List (Nat × Value)} (hl : lv_pick lv ks = lv') (k : V X p l e R s m args below meth c nL Q S0 ad0 (S) (pc) (lv') (st)) : V X p l e R s m args below meth c nL Q S0 ad0 (S) (pc) (lv) (st) := by
  intro h1 h2 ad H locs ls hE hW hL z1 z2 hl'
  refine k h1 (fun q hq => ?_) ad H locs ls hE hW hL z1 z2 (lv_sub hl' ks ?_)
  · rw [← hl] at hq
    obtain ⟨i, -, hi⟩ := List.mem_filterMap.mp hq
    exact h2 q (List.mem_of_getElem? hi)
  · rw [← hl]
    unfold lv_pick
    show _ = List.map _ _
    rw [List.map_filterMap]
    congr 1
    funext i
    rw [List.getElem?_map]
theorem lvc_at {ad : Nat → Nat} {ls : Array Slot} (h : lv_has ls nL (lvc ad lv)) (k : Nat) {i : Nat} {v : Value} (hk : lv[k]? = some (i, v)) : ls[i]? = some (.val (cv ad v)) :=
  lv_at h k (by rw [List.getElem?_map, hk]; rfl)
theorem okl_at (h : okl S lv) (k : Nat) {i : Nat} {v : Value} (hk : lv[k]? = some (i, v)) : okv S v := h (i, v) (List.mem_of_getElem? hk)
theorem lvc_store {ad : Nat → Nat} {i : Nat} {v : Value} {lv' : List (Nat × Value)} (hl : (i, v) :: lv.filter (fun q => !(q.1 == i) && !(q.1 + 1 == i && q.2.category == 2)) = lv') :
    (i, cv ad v) :: (lvc ad lv).filter (fun q => !(q.1 == i) && !(q.1 + 1 == i && q.2.category == 2)) = lvc ad lv' := by
  rw [← hl, lvc, List.filter_map]
  show _ = _ :: _
  congr 2
  apply List.filter_congr
  intro q _
  show (!(q.1 == i) && !(q.1 + 1 == i && (cv ad q.2).category == 2)) = _
  rw [cv_cat]
theorem okl_store {i : Nat} {v : Value} {lv' : List (Nat × Value)} (h : okl S lv) (hv : okv S v) (hl : (i, v) :: lv.filter (fun q => !(q.1 == i) && !(q.1 + 1 == i && q.2.category == 2)) = lv') : okl S lv' := by
  intro q hq
  rw [← hl] at hq
  rcases List.mem_cons.mp hq with rfl | hq
  · exact hv
  · exact h q (List.mem_filter.mp hq).1
theorem V_iconst (C : Cn X K p l R s m meth c cc own nL fr lo) {n : Int} {v : Int32} (hdg : decode cc pc = .ok (.iconst n, 1)) (hv : Int32.ofInt n = v) (k : V X p l e R s m args below meth c nL Q S0 ad0 (S) (pc + 1) (lv) (.int v :: st)) : V X p l e R s m args below meth c nL Q S0 ad0 (S) (pc) (lv) (st) := by
  intro h1 h2 ad H locs ls hE hW hL z1 z2 hl
  exact lv_iconst C.1 C.2.1 hdg hv (k ⟨trivial, h1⟩ h2 ad H locs ls hE hW hL z1 z2 hl)
theorem V_bipush (C : Cn X K p l R s m meth c cc own nL fr lo) {n : Int} {v : Int32} (hdg : decode cc pc = .ok (.bipush n, 2)) (hv : (Int8.ofInt n).toInt32 = v) (k : V X p l e R s m args below meth c nL Q S0 ad0 (S) (pc + 2) (lv) (.int v :: st)) : V X p l e R s m args below meth c nL Q S0 ad0 (S) (pc) (lv) (st) := by
  intro h1 h2 ad H locs ls hE hW hL z1 z2 hl
  exact lv_bipush C.1 C.2.1 hdg hv (k ⟨trivial, h1⟩ h2 ad H locs ls hE hW hL z1 z2 hl)
theorem V_sipush (C : Cn X K p l R s m meth c cc own nL fr lo) {n : Int} {v : Int32} (hdg : decode cc pc = .ok (.sipush n, 3)) (hv : (Int16.ofInt n).toInt32 = v) (k : V X p l e R s m args below meth c nL Q S0 ad0 (S) (pc + 3) (lv) (.int v :: st)) : V X p l e R s m args below meth c nL Q S0 ad0 (S) (pc) (lv) (st) := by
  intro h1 h2 ad H locs ls hE hW hL z1 z2 hl
  exact lv_sipush C.1 C.2.1 hdg hv (k ⟨trivial, h1⟩ h2 ad H locs ls hE hW hL z1 z2 hl)
theorem V_lconst (C : Cn X K p l R s m meth c cc own nL fr lo) {n : Fin 2} {v : Int64} (hdg : decode cc pc = .ok (.lconst n, 1)) (hv : Int64.ofNat (n : Nat) = v) (k : V X p l e R s m args below meth c nL Q S0 ad0 (S) (pc + 1) (lv) (.long v :: st)) : V X p l e R s m args below meth c nL Q S0 ad0 (S) (pc) (lv) (st) := by
  intro h1 h2 ad H locs ls hE hW hL z1 z2 hl
  exact lv_lconst C.1 C.2.1 hdg hv (k ⟨trivial, h1⟩ h2 ad H locs ls hE hW hL z1 z2 hl)
theorem V_iload_n (C : Cn X K p l R s m meth c cc own nL fr lo) {k9 : Fin 4} {i : Nat} {x : Int32} (hdg : decode cc pc = .ok (.iload_n k9, 1)) (hi : (k9 : Nat) = i) (a : Nat) (ha : lv[a]? = some (i, .int x)) (k : V X p l e R s m args below meth c nL Q S0 ad0 (S) (pc + 1) (lv) (.int x :: st)) : V X p l e R s m args below meth c nL Q S0 ad0 (S) (pc) (lv) (st) := by
  intro h1 h2 ad H locs ls hE hW hL z1 z2 hl
  exact lv_iload_n C.1 C.2.1 hdg hi (lvc_at hl a ha) (k ⟨okl_at h2 a ha, h1⟩ h2 ad H locs ls hE hW hL z1 z2 hl)
theorem V_iload (C : Cn X K p l R s m meth c cc own nL fr lo) {i : Nat} {x : Int32} (hdg : decode cc pc = .ok (.iload i, 2)) (a : Nat) (ha : lv[a]? = some (i, .int x)) (k : V X p l e R s m args below meth c nL Q S0 ad0 (S) (pc + 2) (lv) (.int x :: st)) : V X p l e R s m args below meth c nL Q S0 ad0 (S) (pc) (lv) (st) := by
  intro h1 h2 ad H locs ls hE hW hL z1 z2 hl
  exact lv_iload C.1 C.2.1 hdg (lvc_at hl a ha) (k ⟨okl_at h2 a ha, h1⟩ h2 ad H locs ls hE hW hL z1 z2 hl)
theorem V_lload_n (C : Cn X K p l R s m meth c cc own nL fr lo) {k9 : Fin 4} {i : Nat} {x : Int64} (hdg : decode cc pc = .ok (.lload_n k9, 1)) (hi : (k9 : Nat) = i) (a : Nat) (ha : lv[a]? = some (i, .long x)) (k : V X p l e R s m args below meth c nL Q S0 ad0 (S) (pc + 1) (lv) (.long x :: st)) : V X p l e R s m args below meth c nL Q S0 ad0 (S) (pc) (lv) (st) := by
  intro h1 h2 ad H locs ls hE hW hL z1 z2 hl
  exact lv_lload_n C.1 C.2.1 hdg hi (lvc_at hl a ha) (k ⟨okl_at h2 a ha, h1⟩ h2 ad H locs ls hE hW hL z1 z2 hl)
theorem V_lload (C : Cn X K p l R s m meth c cc own nL fr lo) {i : Nat} {x : Int64} (hdg : decode cc pc = .ok (.lload i, 2)) (a : Nat) (ha : lv[a]? = some (i, .long x)) (k : V X p l e R s m args below meth c nL Q S0 ad0 (S) (pc + 2) (lv) (.long x :: st)) : V X p l e R s m args below meth c nL Q S0 ad0 (S) (pc) (lv) (st) := by
  intro h1 h2 ad H locs ls hE hW hL z1 z2 hl
  exact lv_lload C.1 C.2.1 hdg (lvc_at hl a ha) (k ⟨okl_at h2 a ha, h1⟩ h2 ad H locs ls hE hW hL z1 z2 hl)
theorem V_aload_n (C : Cn X K p l R s m meth c cc own nL fr lo) {k9 : Fin 4} {i : Nat} {x : Nat} (hdg : decode cc pc = .ok (.aload_n k9, 1)) (hi : (k9 : Nat) = i) (a : Nat) (ha : lv[a]? = some (i, .ref x)) (k : V X p l e R s m args below meth c nL Q S0 ad0 (S) (pc + 1) (lv) (.ref x :: st)) : V X p l e R s m args below meth c nL Q S0 ad0 (S) (pc) (lv) (st) := by
  intro h1 h2 ad H locs ls hE hW hL z1 z2 hl
  exact lv_aload_n C.1 C.2.1 hdg hi (lvc_at hl a ha) (k ⟨okl_at h2 a ha, h1⟩ h2 ad H locs ls hE hW hL z1 z2 hl)
theorem V_aload (C : Cn X K p l R s m meth c cc own nL fr lo) {i : Nat} {x : Nat} (hdg : decode cc pc = .ok (.aload i, 2)) (a : Nat) (ha : lv[a]? = some (i, .ref x)) (k : V X p l e R s m args below meth c nL Q S0 ad0 (S) (pc + 2) (lv) (.ref x :: st)) : V X p l e R s m args below meth c nL Q S0 ad0 (S) (pc) (lv) (st) := by
  intro h1 h2 ad H locs ls hE hW hL z1 z2 hl
  exact lv_aload C.1 C.2.1 hdg (lvc_at hl a ha) (k ⟨okl_at h2 a ha, h1⟩ h2 ad H locs ls hE hW hL z1 z2 hl)
theorem V_istore_n (C : Cn X K p l R s m meth c cc own nL fr lo) {k9 : Fin 4} {i : Nat} {x : Int32} (hdg : decode cc pc = .ok (.istore_n k9, 1)) (hi : (k9 : Nat) = i) (hn : i < nL) {lv' : List (Nat × Value)} (hl9 : (i, Value.int x) :: lv.filter (fun q => !(q.1 == i) && !(q.1 + 1 == i && q.2.category == 2)) = lv') (k : V X p l e R s m args below meth c nL Q S0 ad0 (S) (pc + 1) (lv') (st)) : V X p l e R s m args below meth c nL Q S0 ad0 (S) (pc) (lv) (.int x :: st) := by
  intro h1 h2 ad H locs ls hE hW hL z1 z2 hl
  exact lv_istore_n C.1 C.2.1 hdg hi hl hn (lvc_store (ad := ad) hl9) (fun ls1 hl1 => k h1.2 (okl_store h2 h1.1 hl9) ad H locs ls1 hE hW hL z1 z2 hl1)
theorem V_istore (C : Cn X K p l R s m meth c cc own nL fr lo) {i : Nat} {x : Int32} (hdg : decode cc pc = .ok (.istore i, 2))  (hn : i < nL) {lv' : List (Nat × Value)} (hl9 : (i, Value.int x) :: lv.filter (fun q => !(q.1 == i) && !(q.1 + 1 == i && q.2.category == 2)) = lv') (k : V X p l e R s m args below meth c nL Q S0 ad0 (S) (pc + 2) (lv') (st)) : V X p l e R s m args below meth c nL Q S0 ad0 (S) (pc) (lv) (.int x :: st) := by
  intro h1 h2 ad H locs ls hE hW hL z1 z2 hl
  exact lv_istore C.1 C.2.1 hdg hl hn (lvc_store (ad := ad) hl9) (fun ls1 hl1 => k h1.2 (okl_store h2 h1.1 hl9) ad H locs ls1 hE hW hL z1 z2 hl1)
theorem V_astore_n (C : Cn X K p l R s m meth c cc own nL fr lo) {k9 : Fin 4} {i : Nat} {x : Nat} (hdg : decode cc pc = .ok (.astore_n k9, 1)) (hi : (k9 : Nat) = i) (hn : i < nL) {lv' : List (Nat × Value)} (hl9 : (i, Value.ref x) :: lv.filter (fun q => !(q.1 == i) && !(q.1 + 1 == i && q.2.category == 2)) = lv') (k : V X p l e R s m args below meth c nL Q S0 ad0 (S) (pc + 1) (lv') (st)) : V X p l e R s m args below meth c nL Q S0 ad0 (S) (pc) (lv) (.ref x :: st) := by
  intro h1 h2 ad H locs ls hE hW hL z1 z2 hl
  exact lv_astore_n C.1 C.2.1 hdg hi hl hn (lvc_store (ad := ad) hl9) (fun ls1 hl1 => k h1.2 (okl_store h2 h1.1 hl9) ad H locs ls1 hE hW hL z1 z2 hl1)
theorem V_astore (C : Cn X K p l R s m meth c cc own nL fr lo) {i : Nat} {x : Nat} (hdg : decode cc pc = .ok (.astore i, 2))  (hn : i < nL) {lv' : List (Nat × Value)} (hl9 : (i, Value.ref x) :: lv.filter (fun q => !(q.1 == i) && !(q.1 + 1 == i && q.2.category == 2)) = lv') (k : V X p l e R s m args below meth c nL Q S0 ad0 (S) (pc + 2) (lv') (st)) : V X p l e R s m args below meth c nL Q S0 ad0 (S) (pc) (lv) (.ref x :: st) := by
  intro h1 h2 ad H locs ls hE hW hL z1 z2 hl
  exact lv_astore C.1 C.2.1 hdg hl hn (lvc_store (ad := ad) hl9) (fun ls1 hl1 => k h1.2 (okl_store h2 h1.1 hl9) ad H locs ls1 hE hW hL z1 z2 hl1)
theorem V_iinc (C : Cn X K p l R s m meth c cc own nL fr lo) {i a : Nat} {n : Int} {x v : Int32} (hdg : decode cc pc = .ok (.iinc i n, 3)) (ha : lv[a]? = some (i, .int x)) (hv : x + Int32.ofInt n = v) (hn : i < nL) {lv' : List (Nat × Value)} (hl9 : (i, Value.int v) :: lv.filter (fun q => !(q.1 == i) && !(q.1 + 1 == i && q.2.category == 2)) = lv') (k : V X p l e R s m args below meth c nL Q S0 ad0 (S) (pc + 3) (lv') (st)) : V X p l e R s m args below meth c nL Q S0 ad0 (S) (pc) (lv) (st) := by
  intro h1 h2 ad H locs ls hE hW hL z1 z2 hl
  exact lv_iinc (k := a) C.1 C.2.1 hdg hl (by rw [List.getElem?_map, ha]; rfl) hv hn (lvc_store (ad := ad) hl9) (fun ls1 hl1 => k h1 (okl_store h2 (v := .int v) trivial hl9) ad H locs ls1 hE hW hL z1 z2 hl1)
theorem V_iadd (C : Cn X K p l R s m meth c cc own nL fr lo) {x y : Int32} (hdg : decode cc pc = .ok (.iadd, 1)) (k : V X p l e R s m args below meth c nL Q S0 ad0 (S) (pc + 1) (lv) (.int (x + y) :: st)) : V X p l e R s m args below meth c nL Q S0 ad0 (S) (pc) (lv) (.int y :: .int x :: st) := by
  intro h1 h2 ad H locs ls hE hW hL z1 z2 hl
  exact lv_iadd C.1 C.2.1 hdg (k ⟨trivial, h1.2.2⟩ h2 ad H locs ls hE hW hL z1 z2 hl)
theorem V_isub (C : Cn X K p l R s m meth c cc own nL fr lo) {x y : Int32} (hdg : decode cc pc = .ok (.isub, 1)) (k : V X p l e R s m args below meth c nL Q S0 ad0 (S) (pc + 1) (lv) (.int (x - y) :: st)) : V X p l e R s m args below meth c nL Q S0 ad0 (S) (pc) (lv) (.int y :: .int x :: st) := by
  intro h1 h2 ad H locs ls hE hW hL z1 z2 hl
  exact lv_isub C.1 C.2.1 hdg (k ⟨trivial, h1.2.2⟩ h2 ad H locs ls hE hW hL z1 z2 hl)
theorem V_imul (C : Cn X K p l R s m meth c cc own nL fr lo) {x y : Int32} (hdg : decode cc pc = .ok (.imul, 1)) (k : V X p l e R s m args below meth c nL Q S0 ad0 (S) (pc + 1) (lv) (.int (x * y) :: st)) : V X p l e R s m args below meth c nL Q S0 ad0 (S) (pc) (lv) (.int y :: .int x :: st) := by
  intro h1 h2 ad H locs ls hE hW hL z1 z2 hl
  exact lv_imul C.1 C.2.1 hdg (k ⟨trivial, h1.2.2⟩ h2 ad H locs ls hE hW hL z1 z2 hl)
theorem V_iand (C : Cn X K p l R s m meth c cc own nL fr lo) {x y : Int32} (hdg : decode cc pc = .ok (.iand, 1)) (k : V X p l e R s m args below meth c nL Q S0 ad0 (S) (pc + 1) (lv) (.int (x &&& y) :: st)) : V X p l e R s m args below meth c nL Q S0 ad0 (S) (pc) (lv) (.int y :: .int x :: st) := by
  intro h1 h2 ad H locs ls hE hW hL z1 z2 hl
  exact lv_iand C.1 C.2.1 hdg (k ⟨trivial, h1.2.2⟩ h2 ad H locs ls hE hW hL z1 z2 hl)
theorem V_idiv (C : Cn X K p l R s m meth c cc own nL fr lo) {x y : Int32} (hdg : decode cc pc = .ok (.idiv, 1)) (hy : ¬ y = 0) (k : V X p l e R s m args below meth c nL Q S0 ad0 (S) (pc + 1) (lv) (.int (x / y) :: st)) : V X p l e R s m args below meth c nL Q S0 ad0 (S) (pc) (lv) (.int y :: .int x :: st) := by
  intro h1 h2 ad H locs ls hE hW hL z1 z2 hl
  exact lv_idiv C.1 C.2.1 hdg hy (k ⟨trivial, h1.2.2⟩ h2 ad H locs ls hE hW hL z1 z2 hl)
theorem V_irem (C : Cn X K p l R s m meth c cc own nL fr lo) {x y : Int32} (hdg : decode cc pc = .ok (.irem, 1)) (hy : ¬ y = 0) (k : V X p l e R s m args below meth c nL Q S0 ad0 (S) (pc + 1) (lv) (.int (x - x / y * y) :: st)) : V X p l e R s m args below meth c nL Q S0 ad0 (S) (pc) (lv) (.int y :: .int x :: st) := by
  intro h1 h2 ad H locs ls hE hW hL z1 z2 hl
  exact lv_irem C.1 C.2.1 hdg hy (k ⟨trivial, h1.2.2⟩ h2 ad H locs ls hE hW hL z1 z2 hl)
theorem V_lmul (C : Cn X K p l R s m meth c cc own nL fr lo) {x y : Int64} (hdg : decode cc pc = .ok (.lmul, 1)) (k : V X p l e R s m args below meth c nL Q S0 ad0 (S) (pc + 1) (lv) (.long (x * y) :: st)) : V X p l e R s m args below meth c nL Q S0 ad0 (S) (pc) (lv) (.long y :: .long x :: st) := by
  intro h1 h2 ad H locs ls hE hW hL z1 z2 hl
  exact lv_lmul C.1 C.2.1 hdg (k ⟨trivial, h1.2.2⟩ h2 ad H locs ls hE hW hL z1 z2 hl)
theorem V_ldiv (C : Cn X K p l R s m meth c cc own nL fr lo) {x y : Int64} (hdg : decode cc pc = .ok (.ldiv, 1)) (hy : ¬ y = 0) (k : V X p l e R s m args below meth c nL Q S0 ad0 (S) (pc + 1) (lv) (.long (x / y) :: st)) : V X p l e R s m args below meth c nL Q S0 ad0 (S) (pc) (lv) (.long y :: .long x :: st) := by
  intro h1 h2 ad H locs ls hE hW hL z1 z2 hl
  exact lv_ldiv C.1 C.2.1 hdg hy (k ⟨trivial, h1.2.2⟩ h2 ad H locs ls hE hW hL z1 z2 hl)
theorem V_lcmp (C : Cn X K p l R s m meth c cc own nL fr lo) {x y : Int64} (hdg : decode cc pc = .ok (.lcmp, 1)) (k : V X p l e R s m args below meth c nL Q S0 ad0 (S) (pc + 1) (lv) (.int (lg_cmp x y) :: st)) : V X p l e R s m args below meth c nL Q S0 ad0 (S) (pc) (lv) (.long y :: .long x :: st) := by
  intro h1 h2 ad H locs ls hE hW hL z1 z2 hl
  exact W.lcmp C.1 C.2.1 hdg (k ⟨trivial, h1.2.2⟩ h2 ad H locs ls hE hW hL z1 z2 hl)
theorem V_ineg (C : Cn X K p l R s m meth c cc own nL fr lo) {x : Int32} (hdg : decode cc pc = .ok (.ineg, 1)) (k : V X p l e R s m args below meth c nL Q S0 ad0 (S) (pc + 1) (lv) (.int (-x) :: st)) : V X p l e R s m args below meth c nL Q S0 ad0 (S) (pc) (lv) (.int x :: st) := by
  intro h1 h2 ad H locs ls hE hW hL z1 z2 hl
  exact lv_ineg C.1 C.2.1 hdg (k ⟨trivial, h1.2⟩ h2 ad H locs ls hE hW hL z1 z2 hl)
theorem V_i2l (C : Cn X K p l R s m meth c cc own nL fr lo) {x : Int32} (hdg : decode cc pc = .ok (.i2l, 1)) (k : V X p l e R s m args below meth c nL Q S0 ad0 (S) (pc + 1) (lv) (.long x.toInt64 :: st)) : V X p l e R s m args below meth c nL Q S0 ad0 (S) (pc) (lv) (.int x :: st) := by
  intro h1 h2 ad H locs ls hE hW hL z1 z2 hl
  exact lv_i2l C.1 C.2.1 hdg rfl (k ⟨trivial, h1.2⟩ h2 ad H locs ls hE hW hL z1 z2 hl)
theorem V_l2i (C : Cn X K p l R s m meth c cc own nL fr lo) {x : Int64} (hdg : decode cc pc = .ok (.l2i, 1)) (k : V X p l e R s m args below meth c nL Q S0 ad0 (S) (pc + 1) (lv) (.int x.toInt32 :: st)) : V X p l e R s m args below meth c nL Q S0 ad0 (S) (pc) (lv) (.long x :: st) := by
  intro h1 h2 ad H locs ls hE hW hL z1 z2 hl
  exact lv_l2i C.1 C.2.1 hdg rfl (k ⟨trivial, h1.2⟩ h2 ad H locs ls hE hW hL z1 z2 hl)
theorem V_dup (C : Cn X K p l R s m meth c cc own nL fr lo) {v : Value} (hdg : decode cc pc = .ok (.dup, 1)) (hv : v.category = 1) (k : V X p l e R s m args below meth c nL Q S0 ad0 (S) (pc + 1) (lv) (v :: v :: st)) : V X p l e R s m args below meth c nL Q S0 ad0 (S) (pc) (lv) (v :: st) := by
  intro h1 h2 ad H locs ls hE hW hL z1 z2 hl
  exact lv_dup C.1 C.2.1 hdg (by rw [cv_cat]; exact hv) (k ⟨h1.1, h1⟩ h2 ad H locs ls hE hW hL z1 z2 hl)
theorem V_pop (C : Cn X K p l R s m meth c cc own nL fr lo) {v : Value} (hdg : decode cc pc = .ok (.pop, 1)) (hv : v.category = 1) (k : V X p l e R s m args below meth c nL Q S0 ad0 (S) (pc + 1) (lv) (st)) : V X p l e R s m args below meth c nL Q S0 ad0 (S) (pc) (lv) (v :: st) := by
  intro h1 h2 ad H locs ls hE hW hL z1 z2 hl
  exact lv_pop C.1 C.2.1 hdg (by rw [cv_cat]; exact hv) (k h1.2 h2 ad H locs ls hE hW hL z1 z2 hl)
theorem V_dup2 (C : Cn X K p l R s m meth c cc own nL fr lo) {v w : Value} (hdg : decode cc pc = .ok (.dup2, 1)) (hv : v.category = 1) (hw : w.category = 1) (k : V X p l e R s m args below meth c nL Q S0 ad0 (S) (pc + 1) (lv) (v :: w :: v :: w :: st)) : V X p l e R s m args below meth c nL Q S0 ad0 (S) (pc) (lv) (v :: w :: st) := by
  intro h1 h2 ad H locs ls hE hW hL z1 z2 hl
  exact lv_dup2_11 C.1 C.2.1 hdg (by rw [cv_cat]; exact hv) (by rw [cv_cat]; exact hw) (k ⟨h1.1, h1.2.1, h1⟩ h2 ad H locs ls hE hW hL z1 z2 hl)
theorem V_goto (C : Cn X K p l R s m meth c cc own nL fr lo) {off : Int} {tgt : Nat} (hdg : decode cc pc = .ok (.goto off, 3)) (ht : (pc : Int) + off = (tgt : Int)) (k : V X p l e R s m args below meth c nL Q S0 ad0 (S) (tgt) (lv) (st)) : V X p l e R s m args below meth c nL Q S0 ad0 (S) (pc) (lv) (st) := by
  intro h1 h2 ad H locs ls hE hW hL z1 z2 hl
  exact lv_goto C.1 C.2.1 hdg ht (k h1 h2 ad H locs ls hE hW hL z1 z2 hl)
theorem V_if_eq (C : Cn X K p l R s m meth c cc own nL fr lo) {A B : Prop} {x : Int32} {off : Int} {tgt : Nat} (hdg : decode cc pc = .ok (.ifCond .eq off, 3)) (ht : (pc : Int) + off = (tgt : Int)) (h : (x = 0 → A) ∧ (¬ x = 0 → B)) (kt : A → V X p l e R s m args below meth c nL Q S0 ad0 (S) (tgt) (lv) (st)) (kf : B → V X p l e R s m args below meth c nL Q S0 ad0 (S) (pc + 3) (lv) (st)) : V X p l e R s m args below meth c nL Q S0 ad0 (S) (pc) (lv) (.int x :: st) := by
  intro h1 h2 ad H locs ls hE hW hL z1 z2 hl
  exact lv_if_eq C.1 C.2.1 hdg ht (fun hc => kt (h.1 hc) h1.2 h2 ad H locs ls hE hW hL z1 z2 hl) (fun hc => kf (h.2 hc) h1.2 h2 ad H locs ls hE hW hL z1 z2 hl)
theorem V_icmp_eq (C : Cn X K p l R s m meth c cc own nL fr lo) {A B : Prop} {x y : Int32} {off : Int} {tgt : Nat} (hdg : decode cc pc = .ok (.if_icmp .eq off, 3)) (ht : (pc : Int) + off = (tgt : Int)) (h : (x = y → A) ∧ (¬ x = y → B)) (kt : A → V X p l e R s m args below meth c nL Q S0 ad0 (S) (tgt) (lv) (st)) (kf : B → V X p l e R s m args below meth c nL Q S0 ad0 (S) (pc + 3) (lv) (st)) : V X p l e R s m args below meth c nL Q S0 ad0 (S) (pc) (lv) (.int y :: .int x :: st) := by
  intro h1 h2 ad H locs ls hE hW hL z1 z2 hl
  exact lv_icmp_eq C.1 C.2.1 hdg ht (fun hc => kt (h.1 hc) h1.2.2 h2 ad H locs ls hE hW hL z1 z2 hl) (fun hc => kf (h.2 hc) h1.2.2 h2 ad H locs ls hE hW hL z1 z2 hl)
theorem V_if_ne (C : Cn X K p l R s m meth c cc own nL fr lo) {A B : Prop} {x : Int32} {off : Int} {tgt : Nat} (hdg : decode cc pc = .ok (.ifCond .ne off, 3)) (ht : (pc : Int) + off = (tgt : Int)) (h : (x = 0 → B) ∧ (¬ x = 0 → A)) (kt : A → V X p l e R s m args below meth c nL Q S0 ad0 (S) (tgt) (lv) (st)) (kf : B → V X p l e R s m args below meth c nL Q S0 ad0 (S) (pc + 3) (lv) (st)) : V X p l e R s m args below meth c nL Q S0 ad0 (S) (pc) (lv) (.int x :: st) := by
  intro h1 h2 ad H locs ls hE hW hL z1 z2 hl
  exact lv_if_ne C.1 C.2.1 hdg ht (fun hc => kt (h.2 hc) h1.2 h2 ad H locs ls hE hW hL z1 z2 hl) (fun hc => kf (h.1 hc) h1.2 h2 ad H locs ls hE hW hL z1 z2 hl)
theorem V_icmp_ne (C : Cn X K p l R s m meth c cc own nL fr lo) {A B : Prop} {x y : Int32} {off : Int} {tgt : Nat} (hdg : decode cc pc = .ok (.if_icmp .ne off, 3)) (ht : (pc : Int) + off = (tgt : Int)) (h : (x = y → B) ∧ (¬ x = y → A)) (kt : A → V X p l e R s m args below meth c nL Q S0 ad0 (S) (tgt) (lv) (st)) (kf : B → V X p l e R s m args below meth c nL Q S0 ad0 (S) (pc + 3) (lv) (st)) : V X p l e R s m args below meth c nL Q S0 ad0 (S) (pc) (lv) (.int y :: .int x :: st) := by
  intro h1 h2 ad H locs ls hE hW hL z1 z2 hl
  exact lv_icmp_ne C.1 C.2.1 hdg ht (fun hc => kt (h.2 hc) h1.2.2 h2 ad H locs ls hE hW hL z1 z2 hl) (fun hc => kf (h.1 hc) h1.2.2 h2 ad H locs ls hE hW hL z1 z2 hl)
theorem V_if_lt (C : Cn X K p l R s m meth c cc own nL fr lo) {A B : Prop} {x : Int32} {off : Int} {tgt : Nat} (hdg : decode cc pc = .ok (.ifCond .lt off, 3)) (ht : (pc : Int) + off = (tgt : Int)) (h : (x < 0 → A) ∧ (¬ x < 0 → B)) (kt : A → V X p l e R s m args below meth c nL Q S0 ad0 (S) (tgt) (lv) (st)) (kf : B → V X p l e R s m args below meth c nL Q S0 ad0 (S) (pc + 3) (lv) (st)) : V X p l e R s m args below meth c nL Q S0 ad0 (S) (pc) (lv) (.int x :: st) := by
  intro h1 h2 ad H locs ls hE hW hL z1 z2 hl
  exact lv_if_lt C.1 C.2.1 hdg ht (fun hc => kt (h.1 hc) h1.2 h2 ad H locs ls hE hW hL z1 z2 hl) (fun hc => kf (h.2 hc) h1.2 h2 ad H locs ls hE hW hL z1 z2 hl)
theorem V_icmp_lt (C : Cn X K p l R s m meth c cc own nL fr lo) {A B : Prop} {x y : Int32} {off : Int} {tgt : Nat} (hdg : decode cc pc = .ok (.if_icmp .lt off, 3)) (ht : (pc : Int) + off = (tgt : Int)) (h : (x < y → A) ∧ (¬ x < y → B)) (kt : A → V X p l e R s m args below meth c nL Q S0 ad0 (S) (tgt) (lv) (st)) (kf : B → V X p l e R s m args below meth c nL Q S0 ad0 (S) (pc + 3) (lv) (st)) : V X p l e R s m args below meth c nL Q S0 ad0 (S) (pc) (lv) (.int y :: .int x :: st) := by
  intro h1 h2 ad H locs ls hE hW hL z1 z2 hl
  exact lv_icmp_lt C.1 C.2.1 hdg ht (fun hc => kt (h.1 hc) h1.2.2 h2 ad H locs ls hE hW hL z1 z2 hl) (fun hc => kf (h.2 hc) h1.2.2 h2 ad H locs ls hE hW hL z1 z2 hl)
theorem V_if_ge (C : Cn X K p l R s m meth c cc own nL fr lo) {A B : Prop} {x : Int32} {off : Int} {tgt : Nat} (hdg : decode cc pc = .ok (.ifCond .ge off, 3)) (ht : (pc : Int) + off = (tgt : Int)) (h : (0 ≤ x → A) ∧ (¬ 0 ≤ x → B)) (kt : A → V X p l e R s m args below meth c nL Q S0 ad0 (S) (tgt) (lv) (st)) (kf : B → V X p l e R s m args below meth c nL Q S0 ad0 (S) (pc + 3) (lv) (st)) : V X p l e R s m args below meth c nL Q S0 ad0 (S) (pc) (lv) (.int x :: st) := by
  intro h1 h2 ad H locs ls hE hW hL z1 z2 hl
  exact lv_if_ge C.1 C.2.1 hdg ht (fun hc => kt (h.1 hc) h1.2 h2 ad H locs ls hE hW hL z1 z2 hl) (fun hc => kf (h.2 hc) h1.2 h2 ad H locs ls hE hW hL z1 z2 hl)
theorem V_icmp_ge (C : Cn X K p l R s m meth c cc own nL fr lo) {A B : Prop} {x y : Int32} {off : Int} {tgt : Nat} (hdg : decode cc pc = .ok (.if_icmp .ge off, 3)) (ht : (pc : Int) + off = (tgt : Int)) (h : (y ≤ x → A) ∧ (¬ y ≤ x → B)) (kt : A → V X p l e R s m args below meth c nL Q S0 ad0 (S) (tgt) (lv) (st)) (kf : B → V X p l e R s m args below meth c nL Q S0 ad0 (S) (pc + 3) (lv) (st)) : V X p l e R s m args below meth c nL Q S0 ad0 (S) (pc) (lv) (.int y :: .int x :: st) := by
  intro h1 h2 ad H locs ls hE hW hL z1 z2 hl
  exact lv_icmp_ge C.1 C.2.1 hdg ht (fun hc => kt (h.1 hc) h1.2.2 h2 ad H locs ls hE hW hL z1 z2 hl) (fun hc => kf (h.2 hc) h1.2.2 h2 ad H locs ls hE hW hL z1 z2 hl)
theorem V_if_gt (C : Cn X K p l R s m meth c cc own nL fr lo) {A B : Prop} {x : Int32} {off : Int} {tgt : Nat} (hdg : decode cc pc = .ok (.ifCond .gt off, 3)) (ht : (pc : Int) + off = (tgt : Int)) (h : (0 < x → A) ∧ (¬ 0 < x → B)) (kt : A → V X p l e R s m args below meth c nL Q S0 ad0 (S) (tgt) (lv) (st)) (kf : B → V X p l e R s m args below meth c nL Q S0 ad0 (S) (pc + 3) (lv) (st)) : V X p l e R s m args below meth c nL Q S0 ad0 (S) (pc) (lv) (.int x :: st) := by
  intro h1 h2 ad H locs ls hE hW hL z1 z2 hl
  exact lv_if_gt C.1 C.2.1 hdg ht (fun hc => kt (h.1 hc) h1.2 h2 ad H locs ls hE hW hL z1 z2 hl) (fun hc => kf (h.2 hc) h1.2 h2 ad H locs ls hE hW hL z1 z2 hl)
theorem V_icmp_gt (C : Cn X K p l R s m meth c cc own nL fr lo) {A B : Prop} {x y : Int32} {off : Int} {tgt : Nat} (hdg : decode cc pc = .ok (.if_icmp .gt off, 3)) (ht : (pc : Int) + off = (tgt : Int)) (h : (y < x → A) ∧ (¬ y < x → B)) (kt : A → V X p l e R s m args below meth c nL Q S0 ad0 (S) (tgt) (lv) (st)) (kf : B → V X p l e R s m args below meth c nL Q S0 ad0 (S) (pc + 3) (lv) (st)) : V X p l e R s m args below meth c nL Q S0 ad0 (S) (pc) (lv) (.int y :: .int x :: st) := by
  intro h1 h2 ad H locs ls hE hW hL z1 z2 hl
  exact lv_icmp_gt C.1 C.2.1 hdg ht (fun hc => kt (h.1 hc) h1.2.2 h2 ad H locs ls hE hW hL z1 z2 hl) (fun hc => kf (h.2 hc) h1.2.2 h2 ad H locs ls hE hW hL z1 z2 hl)
theorem V_if_le (C : Cn X K p l R s m meth c cc own nL fr lo) {A B : Prop} {x : Int32} {off : Int} {tgt : Nat} (hdg : decode cc pc = .ok (.ifCond .le off, 3)) (ht : (pc : Int) + off = (tgt : Int)) (h : (x ≤ 0 → A) ∧ (¬ x ≤ 0 → B)) (kt : A → V X p l e R s m args below meth c nL Q S0 ad0 (S) (tgt) (lv) (st)) (kf : B → V X p l e R s m args below meth c nL Q S0 ad0 (S) (pc + 3) (lv) (st)) : V X p l e R s m args below meth c nL Q S0 ad0 (S) (pc) (lv) (.int x :: st) := by
  intro h1 h2 ad H locs ls hE hW hL z1 z2 hl
  exact lv_if_le C.1 C.2.1 hdg ht (fun hc => kt (h.1 hc) h1.2 h2 ad H locs ls hE hW hL z1 z2 hl) (fun hc => kf (h.2 hc) h1.2 h2 ad H locs ls hE hW hL z1 z2 hl)
theorem V_icmp_le (C : Cn X K p l R s m meth c cc own nL fr lo) {A B : Prop} {x y : Int32} {off : Int} {tgt : Nat} (hdg : decode cc pc = .ok (.if_icmp .le off, 3)) (ht : (pc : Int) + off = (tgt : Int)) (h : (x ≤ y → A) ∧ (¬ x ≤ y → B)) (kt : A → V X p l e R s m args below meth c nL Q S0 ad0 (S) (tgt) (lv) (st)) (kf : B → V X p l e R s m args below meth c nL Q S0 ad0 (S) (pc + 3) (lv) (st)) : V X p l e R s m args below meth c nL Q S0 ad0 (S) (pc) (lv) (.int y :: .int x :: st) := by
  intro h1 h2 ad H locs ls hE hW hL z1 z2 hl
  exact lv_icmp_le C.1 C.2.1 hdg ht (fun hc => kt (h.1 hc) h1.2.2 h2 ad H locs ls hE hW hL z1 z2 hl) (fun hc => kf (h.2 hc) h1.2.2 h2 ad H locs ls hE hW hL z1 z2 hl)
theorem V_ldc (C : Cn X K p l R s m meth c cc own nL fr lo) {index : Nat} {v : Int32} (hc : Cond.constant own index v ∈ gW) (hdg : decode cc pc = .ok (.ldc index, 2)) (k : V X p l e R s m args below meth c nL Q S0 ad0 (S) (pc + 2) (lv) (.int v :: st)) : V X p l e R s m args below meth c nL Q S0 ad0 (S) (pc) (lv) (st) := by
  intro h1 h2 ad H locs ls hE hW hL z1 z2 hl
  exact lv_ldc C.1 C.2.1 C.2.2.2.1 (KK.w C.2.2.2.2.1 hc args) hdg (k ⟨trivial, h1⟩ h2 ad H locs ls hE hW hL z1 z2 hl)
theorem V_ldcw (C : Cn X K p l R s m meth c cc own nL fr lo) {index : Nat} {v : Int32} (hc : Cond.constant own index v ∈ gW) (hdg : decode cc pc = .ok (.ldc_w index, 3)) (k : V X p l e R s m args below meth c nL Q S0 ad0 (S) (pc + 3) (lv) (.int v :: st)) : V X p l e R s m args below meth c nL Q S0 ad0 (S) (pc) (lv) (st) := by
  intro h1 h2 ad H locs ls hE hW hL z1 z2 hl
  exact lv_ldcw C.1 C.2.1 C.2.2.2.1 (KK.w C.2.2.2.2.1 hc args) hdg (k ⟨trivial, h1⟩ h2 ad H locs ls hE hW hL z1 z2 hl)
theorem V_ldc2 (C : Cn X K p l R s m meth c cc own nL fr lo) {index : Nat} {v : Int64} (hc : Cond.constantLong own index v ∈ gW) (hdg : decode cc pc = .ok (.ldc2_w index, 3)) (k : V X p l e R s m args below meth c nL Q S0 ad0 (S) (pc + 3) (lv) (.long v :: st)) : V X p l e R s m args below meth c nL Q S0 ad0 (S) (pc) (lv) (st) := by
  intro h1 h2 ad H locs ls hE hW hL z1 z2 hl
  exact lv_ldc2 C.1 C.2.1 C.2.2.2.1 (KK.w C.2.2.2.2.1 hc args) hdg (k ⟨trivial, h1⟩ h2 ad H locs ls hE hW hL z1 z2 hl)
theorem V_case {A B : Prop} {P : Prop} (h : (P → A) ∧ (¬ P → B)) (kt : P → A → V X p l e R s m args below meth c nL Q S0 ad0 (S) (pc) (lv) (st)) (kf : ¬ P → B → V X p l e R s m args below meth c nL Q S0 ad0 (S) (pc) (lv) (st)) : V X p l e R s m args below meth c nL Q S0 ad0 (S) (pc) (lv) (st) := by
  by_cases hP : P
  · exact kt hP (h.1 hP)
  · exact kf hP (h.2 hP)
theorem V_tableOut (C : Cn X K p l R s m meth c cc own nL fr lo) {dflt lo9 hi9 : Int} {offs : Array Int} {len : Nat} {x : Int32} {tgt : Nat} (hdg : decode cc pc = .ok (.tableswitch dflt lo9 hi9 offs, len)) (h : x.toInt < lo9 ∨ hi9 < x.toInt) (ht : (pc : Int) + dflt = (tgt : Int)) (k : V X p l e R s m args below meth c nL Q S0 ad0 (S) (tgt) (lv) (st)) : V X p l e R s m args below meth c nL Q S0 ad0 (S) (pc) (lv) (.int x :: st) := by
  intro h1 h2 ad H locs ls hE hW hL z1 z2 hl
  exact lv_tableOut C.1 C.2.1 hdg h ht (k h1.2 h2 ad H locs ls hE hW hL z1 z2 hl)
theorem V_tableIn (C : Cn X K p l R s m meth c cc own nL fr lo) {dflt lo9 hi9 : Int} {offs : Array Int} {len : Nat} {x : Int32} {off : Int} {tgt : Nat} (hdg : decode cc pc = .ok (.tableswitch dflt lo9 hi9 offs, len)) (q1 : ¬ x.toInt < lo9) (q2 : ¬ hi9 < x.toInt) (ho : offs[(x.toInt - lo9).toNat]? = some off) (ht : (pc : Int) + off = (tgt : Int)) (k : V X p l e R s m args below meth c nL Q S0 ad0 (S) (tgt) (lv) (st)) : V X p l e R s m args below meth c nL Q S0 ad0 (S) (pc) (lv) (.int x :: st) := by
  intro h1 h2 ad H locs ls hE hW hL z1 z2 hl
  exact lv_tableIn C.1 C.2.1 hdg q1 q2 ho ht (k h1.2 h2 ad H locs ls hE hW hL z1 z2 hl)
end RW
