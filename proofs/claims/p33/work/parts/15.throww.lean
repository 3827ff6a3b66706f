/-! a throw whose text is loaded wide -/
section RT0
variable {p : Program} {l : Launch} {e : Env} {R : Room} {s : State} {m : MethodId} {args : Array Value} {below : List Frame} {meth : Method} {c : Code} {H : Heap} {locs : List Loc} {cells slots : Nat}
variable {free : Addr → Prop} {ls : Array Slot} {rest : List Value} {Qc : Array Value → State → Outcome → State → Prop} {XC : String → State → State → Prop}
/-- vx_throwSW of the exceptions' text, with the bounds of what is made handed on -/
theorem vx_throwW2 {cc : ByteArray} {pc : Nat} (hexec : p.tables.exec = Jvm.exec) (hb : c.code = cc) (hl : l.stackTraces = false) {own cls text : String} {names : List String} {ik is ic mc ms sa : Nat} {A : Nat → Prop}
    (hown : s.vm.findClass own = some m.cls) (hcls : Bundle.fit cls = true) (hnames : ∀ n ∈ names, Bundle.fit n = true)
    (hk : (Cond.classLink own ik cls).before args s = true) (hini : (Cond.initialized cls).before args s = true) (hstr : vk_R own is text sa s) (hat : ∀ w ∈ vx_atS own ic cls names, w.before args s = true)
    (hgood : ∀ w ∈ Cond.classLink own ik cls :: Cond.initialized cls :: vx_atS own ic cls names, vx_ot w = true)
    (hU : vx_Zq Bundle.tN "UNASSIGNED_STACK" Bundle.steD A s s.heap) (hN : vx_Zq Bundle.tN "SUPPRESSED_SENTINEL" Bundle.listD A s s.heap) (hS : va_S A s.heap H locs) (hsize : ls.size = c.maxLocals)
    (d0 : decode cc pc = .ok (.new ik, 3)) (d3 : decode cc (pc + 3) = .ok (.dup, 1)) (d4 : decode cc (pc + 4) = .ok (.ldc_w is, 3)) (d6 : decode cc (pc + 7) = .ok (.invokespecial ic, 3)) (d9 : decode cc (pc + 10) = .ok (.athrow, 1))
    (hout : ∀ x ∈ c.exceptionTable.toList, covers x (pc + 10) = false)
    (hRframes : names.length + 3 < R.frames) (hRlocals : (rest.map fun v => v.category).sum + (13 * (names.length + 1) + 43) ≤ R.locals) (hRcells : cells + 1 ≤ R.cells) (hRslots : slots + 6 ≤ R.slots) (hlocks : meth.locks = false)
    (hx : ∀ t : State, s.vm.Alike t.vm → H.size ≤ t.heap.size → (∀ q : Nat, q < H.size → t.heap[q]? = H[q]?) → t.heap.size ≤ H.size + 1 → slotSum t.heap ≤ slotSum H + 6 → XC cls s t)
    (hf : ∀ z ∈ locs, free z.base) (hc : cells + 1 ≤ mc) (hs : slots + 6 ≤ ms) :
    W p l e R s m args below meth c H locs cells slots (vx_MQ below Qc XC args s mc ms free) (F0 m pc ls rest) := by
  intro T hT X
  have htr : e.platform.stackTraces = false := (show e.platform.stackTraces = l.stackTraces by rw [X.admits.platform]).trans hl
  have Y := vx_rebase X (R' := { frames := R.frames, locals := R.locals, cells := 1, slots := 6 }) (Nat.le_refl _) (Nat.le_refl _) hRcells hRslots
  obtain ⟨s', hA⟩ : ∃ z, z = (T.setVm s.vm).setFrames (.invoking m args :: below) := ⟨_, rfl⟩
  rw [← hA] at Y
  have hvm : s'.vm = s.vm := by rw [hA]; rfl
  have hhp : s'.heap = H := by rw [hA]; exact hT
  have hW0 : s.WarmedH s'.vm := by rw [hvm]; exact State.WarmedH.refl s
  have hat' : ∀ w ∈ vx_atS own ic cls names, w.before args s' = true := fun w hw => vx_ot_at hW0 hvm.symm (hgood w (List.mem_cons_of_mem _ (List.mem_cons_of_mem _ hw))) (hat w hw)
  have hk' : (Cond.classLink own ik cls).before args s' = true := vx_ot_at hW0 hvm.symm (hgood _ List.mem_cons_self) hk
  have hini' : (Cond.initialized cls).before args s' = true := vx_ot_at hW0 hvm.symm (hgood _ (List.mem_cons_of_mem _ List.mem_cons_self)) hini
  have hU' : vx_Zq Bundle.tN "UNASSIGNED_STACK" Bundle.steD A s' s'.heap := by rw [hhp]; exact vx_Zq.moved hW0.alike (hU.kept hS.2.1)
  have hN' : vx_Zq Bundle.tN "SUPPRESSED_SENTINEL" Bundle.listD A s' s'.heap := by rw [hhp]; exact vx_Zq.moved hW0.alike (hN.kept hS.2.1)
  have h : ∀ w ∈ Bundle.ownAtoms own ic cls names, w.before args s' = true := vx_own hat' (vx_isRefq hU'.1) (vx_isRefq hN'.1) hU'.2.word hN'.2.word
  have hown' : s'.vm.findClass own = some m.cls := by rw [hvm]; exact hown
  have hins : (Cond.instantiable cls 6).before args s' = true := h _ (by simp [Bundle.ownAtoms])
  obtain ⟨vm₁, cX, kX, hfX, hkX, -, -, X₁, st1⟩ := Y.newCold hexec (own := own) (C := cls) (index := ik) (n := 6) hown' hk' hins hini'
    (g := F0 m pc ls rest) rfl (by rw [hb]; exact d0) (Nat.le_refl _) (Nat.le_refl _)
  generalize hT1 : (T.setVm vm₁).pushCell { cls := cX, slots := kX.instanceTypes.map defaultValue, vm := .none } = T1 at X₁ st1
  have hcat : (Value.ref T.heap.size).category = 1 := rfl
  have hcellA : T1.heap[T.heap.size]? = some (freshCell cX kX) := by rw [← hT1]; exact State.heap_pushCell_size _ _
  have d3' : decode c.code (pc + 3) = .ok (.dup, 1) := by rw [hb]; exact d3
  have d4' : decode c.code (pc + 4) = .ok (.ldc_w is, 3) := by rw [hb]; exact d4
  have hstr' : vk_R own is text sa s' := vk_R.warm hW0 hstr
  obtain ⟨U, hsteps, hrun, hend, hW, hsame, ce, hce, hO⟩ := X₁.ctorThrowS hexec htr (own := own) (cls := cls) (names := names) (ic := ic) hown' hcls hnames h (fun x hx => nomatch hx) hfX hkX hcellA (by rw [hhp, hT]; exact Nat.le_refl _) (msg := .ref sa) rfl
    (g := { method := m, pc := pc + 7, locals := ls, stack := .ref sa :: .ref T.heap.size :: .ref T.heap.size :: rest, locked := none }) rfl hsize rfl rfl (rest := rest) rfl
    (by rw [hb]; exact d6) (by rw [hb]; exact d9) hout hRframes (by simp only [List.map_cons, List.sum_cons, hcat]; omega) hlocks
  obtain ⟨f1, f2⟩ := vx_frame hsame
  obtain ⟨bk1, bk2⟩ := st_books Y
  have g1 : U.heap.size ≤ s'.heap.size + (0 + 1) := hsame.2.2.1
  have g2 : U.slotsUsed = s'.slotsUsed + ((U.heap.toList.drop s'.heap.size).map (·.slots.size)).sum := hsame.2.2.2.1
  have g3 : ((U.heap.toList.drop s'.heap.size).map (·.slots.size)).sum ≤ 0 + 6 := hsame.2.2.2.2.1
  have g4 : U.slotsUsed = slotSum U.heap := (State.slotsTrue_iff ({ U with vm := s'.vm } : State)).mp (State.slotsTrue_of_sameButNew ((State.slotsTrue_iff s').mpr bk2) hsame)
  rw [hhp] at f1 f2 g1 bk2
  have hWs : s.WarmedH U.vm := State.WarmedH.trans hW0 hW
  have hcl : s.vm.findClass cls = some ce.cls := by
    have h9 := hO.cls
    rw [hvm] at h9
    exact h9
  have hall : s.sameButNew ({ U with vm := s.vm } : State) locs mc ms := by
    subst hA
    obtain ⟨e1, e2⟩ := hsame
    rw [State.setFrames_setFrames] at e1
    have h2 : (T.setVm s.vm).sameButNew ({ U with vm := s.vm } : State) [] (0 + 1) (0 + 6) := ⟨e1, e2⟩
    have h3 := X.same.trans h2
    rw [List.append_nil] at h3
    exact h3.mono hc hs
  refine ⟨U, ?_, .threw T.heap.size, hrun, hend, Or.inr ⟨T.heap.size, rfl, cls, ce, locs, hx U hWs.alike f1 (fun q hq => f2 q hq (fun z hz => nomatch hz)) (by omega) (by omega), hce, hO.vm, hcl, hWs, hall, hf⟩⟩
  refine st1 _ ?_
  show Steps p.tables e below (T1.setTop { method := m, pc := pc + 3, locals := ls, stack := .ref T.heap.size :: rest, locked := none }) _
  jvm_step X₁.here [X₁.here.top, hexec, d3', Value.category]
  exact X₁.ldcStringW hexec (own := own) (text := text) (index := is) (a := sa) hown' hstr'.1 hstr'.2
    (g := { method := m, pc := pc + 4, locals := ls, stack := .ref T.heap.size :: .ref T.heap.size :: rest, locked := none }) rfl d4' _ hsteps
end RT0
section RT
variable {X : Cx} {K : KL} {p : Program} {l : Launch} {e : Env} {R : Room} {s : State} {m : MethodId} {args : Array Value} {below : List Frame} {meth : Method} {c : Code} {nL fr lo : Nat} {Q : State → Prop} {S0 S : Sg} {ad0 : Nat → Nat}
variable {cc : ByteArray} {own : String} {pc : Nat} {lv : List (Nat × Value)} {st : List Value} {rv : Int32 → Option Value} {Qa : Nat → Int32 → Sg → Prop}
theorem V_throwW (C : Cn X K p l R s m meth c cc own nL fr lo) (htab : ∀ x ∈ c.exceptionTable.toList, False) {ik is ic k9 : Nat} {text : String} (hk : k9 = 1 ∨ k9 = 2 ∨ k9 = 3) (hat : atOK K own ik ic k9) (hstr : (own, is, text) ∈ K.2.2.2) (hR : 5 < fr ∧ (st.map fun v => v.category).sum + 82 ≤ lo)
    (d0 : decode cc pc = .ok (.new ik, 3)) (d3 : decode cc (pc + 3) = .ok (.dup, 1)) (d4 : decode cc (pc + 4) = .ok (.ldc_w is, 3)) (d6 : decode cc (pc + 7) = .ok (.invokespecial ic, 3)) (d9 : decode cc (pc + 10) = .ok (.athrow, 1))
    (h : S.2.1 + 1 ≤ nB1 ∧ S.2.2 + 6 ≤ nB2 ∧ Qa k9 0 (tS S)) : V X p l e R s m args below meth c nL (QM X below args s S0 ad0 rv Qa) S0 ad0 (S) (pc) (lv) (st) := by
  intro h1 h2 ad H locs ls hE hW hL z1 z2 hl
  obtain ⟨b1, b2, hq⟩ := h
  obtain ⟨at1, at2, at3, at4⟩ := hat
  have KKs := C.2.2.2.2.1
  obtain ⟨-, -, kc, -, kd, ks, kU, kN, -⟩ := And.intro KKs.1 KKs.2
  obtain ⟨sa, hsa⟩ := ks _ hstr
  obtain ⟨-, -, -, -, -, -, cf, cl, cc1, cc2, ct9, ch, chs, -⟩ := And.intro C.1 C.2
  have hkeep : ∀ a : Nat, a < (xH X).size → ¬ (xH X).size ≤ a → s.heap[a]? = (xH X)[a]? := fun a ha _ => ch a ha
  obtain ⟨w1, w2, w3, w4, w5, w6, -⟩ := And.intro hW.1 hW.2
  refine vx_throwW2 (names := exNames) (sa := sa) (text := text) C.1 C.2.1 ct9 C.2.2.2.1 (by rcases hk with rfl | rfl | rfl <;> decide +kernel) (by decide +kernel) (KK.w KKs at1 args) (KK.w KKs at2 args) hsa
    (fun w hw => ?_) (fun w hw => ?_) (kU.kept hkeep) (kN.kept hkeep) ⟨z1, fun q hq h9 => ?_, hL⟩ (hl.1.trans C.2.2.1.symm) d0 d3 d4 d6 d9 (fun x hx => (htab x hx).elim) (by rw [cf]; exact hR.1) (by rw [cl, cv_sum]; exact hR.2) (by rw [cc1]; omega) (by rw [cc2]; omega) C.2.2.2.2.2.1
    (fun t _ f1 f2 g1 g2 => ⟨k9, tS S, ad, rfl, hk, Wd_tS hW f1 f2 g1 g2 b1 b2, hE, hq⟩) hL (by omega) (by omega)
  · rcases at3 w hw with h9 | ⟨q, hq9, rfl⟩ | ⟨y, hy9, rfl⟩
    · exact KK.w KKs h9 args
    · exact va_Nw.use rfl (kc q hq9)
    · exact va_Nw.use rfl (kd y hy9)
  · rcases List.mem_cons.mp hw with rfl | hw
    · exact good_ot at1
    · rcases List.mem_cons.mp hw with rfl | hw
      · exact good_ot at2
      · exact at4 w hw
  · have h8 : q < (xH X).size := Nat.not_le.mp h9
    rw [w1 q h8, ch q h8]
/-- the stack by another name -/
theorem V_st {st' : List Value} (e9 : st = st') (k : V X p l e R s m args below meth c nL Q S0 ad0 (S) (pc) (lv) (st')) : V X p l e R s m args below meth c nL Q S0 ad0 (S) (pc) (lv) (st) := e9 ▸ k
end RT
theorem le8 {a b : Nat} (h : Nat.ble a b = true) : a ≤ b := Nat.le_of_ble_eq_true h
def rvI (v : Int32) : Option Value := some (.int v)
def rvV (_ : Int32) : Option Value := none
def rvR (k : Nat) (v : Int32) : Option Value := some (.ref (enc k (nt v)))
theorem tbl_out {x : Int32} {n : Nat} (hn : n < 100) (h : ∀ k, k ≤ n → x ≠ nI k) : x.toInt < 0 ∨ (n : Int) < x.toInt := by
  rcases Decidable.em (x < 0) with q | q
  · left
    have := Int32.lt_iff_toInt_lt.mp q
    simpa using this
  · right
    have e : x = nI (nt x) := (nI_nt q).symm
    have h2 : n < nt x := Nat.not_le.mp fun q2 => h _ q2 e
    have h3 : (0 : Int) ≤ x.toInt := by
      have := Int32.not_lt.mp q
      simpa using Int32.le_iff_toInt_le.mp this
    have h4 : (nt x : Int) = x.toInt := by show ((x.toInt.toNat : Nat) : Int) = _; omega
    omega
/-! a method of a class for whose other members the machine has entries -/
theorem vx_ofWF {l : Launch} {y : MethodName} {ws ws' : List Cond} {rm : Room} {Pc : Array Value → State → Prop} {Qc : Array Value → State → Outcome → State → Prop} {XC : String → State → State → Prop} {mc ms : Nat} {free : Addr → Prop} {cc : ByteArray} {maxL : Nat} {ret : Option FieldType}
    (hy : plainFor y = true) (hw : ws = Cond.code y cc maxL ret :: ws')
    (body : ∀ p e s m args below meth c s₁, BodyLoose p l y (headSpec ws rm) cc maxL ret e s m args below meth c s₁ → c.maxLocals = maxL → (∀ x ∈ c.exceptionTable.toList, False) → Pc args s →
      W p l e (headSpec ws rm).room s m args below meth c s.heap [] 0 0 (vx_MQ below Qc XC args s mc ms free) (entryFrame m args maxL)) : vx_Met l y ws rm Pc Qc XC mc ms free := by
  refine MetFree.of_bodySF (code := cc) (maxLocals := maxL) (ret := ret) hy ?_ ?_
  · intro args s m h hn
    obtain ⟨meth, c, h1, h2, h3, h4, h5, h6, -, -⟩ := Cond.code_spec hn (atoms_spec (ws := ws) h _ (by rw [hw]; exact List.mem_cons_self))
    exact ⟨meth, c, h1, h2, h3, h4, h5, h6⟩
  · intro p e s m args below meth c s₁ B hml hP _
    have hh0 : s₁.heap = s.heap := by rw [B.state]; rfl
    have ht : ∀ x ∈ c.exceptionTable.toList, False := by
      obtain ⟨meth9, c9, h1, h2, -, -, -, -, h7, -⟩ := Cond.code_spec B.named (atoms_spec (ws := ws) B.pre _ (by rw [hw]; exact List.mem_cons_self))
      cases Option.some.inj (h1.symm.trans B.method)
      cases Option.some.inj (h2.symm.trans (Stand.of_body B).code)
      intro x hx
      rw [Array.isEmpty_iff.mp h7] at hx
      cases hx
    obtain ⟨t, a1, o, b1, b2, b3⟩ := body p e s m args below meth c s₁ B hml ht hP s₁ hh0 (Stand.of_body B)
    exact ⟨t, o, a1, b1, b2, b3⟩
section RC
variable {X : Cx} {K : KL} {p : Program} {l : Launch} {e : Env} {R : Room} {s : State} {m : MethodId} {args : Array Value} {below : List Frame} {meth : Method} {c : Code} {nL fr lo : Nat} {Q : State → Prop} {S0 S : Sg} {ad0 : Nat → Nat}
variable {cc : ByteArray} {own : String} {pc : Nat} {lv : List (Nat × Value)} {st : List Value} {rv : Int32 → Option Value} {Qa : Nat → Int32 → Sg → Prop}
theorem CT_ofVF {y : MethodName} {ret : Option FieldType} {As : List Value} (hy : plainFor y = true) (hlen : (lg_sl As).length ≤ nL) (hown : y.cls = own) (hst : l.stackTraces = false)
    (body : ∀ (p : Program) (e : Env) (R : Room) (s : State) (m : MethodId) (args : Array Value) (below : List Frame) (meth : Method) (c : Code) (ad0 : Nat → Nat), Cn X K p l R s m meth c cc own nL fr lo → meth.sig.returnType = ret → meth.name = y.name → (∀ x ∈ c.exceptionTable.toList, False) →
      V X p l e R s m args below meth c nL (QM X below args s S ad0 rv Qa) S ad0 S 0 (lv_args 0 As) []) : CT X K l y cc nL ret fr lo As rv S Qa := by
  intro hok ad z0 n0
  refine vx_ofWF (cc := cc) (maxL := nL) (ret := ret) hy rfl ?_
  intro p e s m args below meth c s₁ B hml htab hv
  obtain ⟨rfl, hKK, hW, rfl, rfl⟩ := hv
  have hsz : s.heap.size ≤ (xH X).size + nB1 ∧ slotSum s.heap ≤ slotSum (xH X) + nB2 := by
    obtain ⟨-, -, a3, a4, a5, a6, -⟩ := id hW
    exact ⟨by omega, by omega⟩
  have C : Cn X K p l (headSpec [Cond.code y cc nL ret] { frames := fr, cells := (xH X).size + nB1 - s.heap.size, slots := slotSum (xH X) + nB2 - slotSum s.heap, locals := lo }).room s m meth c cc own nL fr lo :=
    ⟨B.exec, B.bytes, hml, by rw [← hown]; exact findClass_of_methodNamed B.named, hKK, B.notSynchronized, rfl, rfl, rfl, rfl, hst, hW.1, hW.2.1, hsz.1, hsz.2⟩
  have hb := body p e _ s m (As.map (cv ad)).toArray below meth c ad C B.returns (name_of_methodNamed B.named B.method).1 htab trivial (okl_args As 0 hok) ad s.heap [] _ ext_rf hW (fun z hz => absurd hz List.not_mem_nil) (Nat.le_refl _) (Nat.le_refl _) (by rw [← cv_args]; exact lv_entry (As.map (cv ad)) (n := nL) (by rw [cv_lg]; exact hlen))
  rw [Nat.sub_self, Nat.sub_self] at hb
  rw [lg_entry_eq]
  exact hb
end RC
