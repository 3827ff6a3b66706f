/-! throws, new objects, new rows -/
def tS (S : Sg) : Sg := (S.1, S.2.1 + 1, S.2.2 + 6)
section RT0
variable {p : Program} {l : Launch} {e : Env} {R : Room} {s : State} {m : MethodId} {args : Array Value} {below : List Frame} {meth : Method} {c : Code} {H : Heap} {locs : List Loc} {cells slots : Nat}
variable {free : Addr → Prop} {ls : Array Slot} {rest : List Value} {Qc : Array Value → State → Outcome → State → Prop} {XC : String → State → State → Prop}
/-- vx_throwS of the exceptions' text, with the bounds of what is made handed on -/
theorem vx_throwS2 {cc : ByteArray} {pc : Nat} (hexec : p.tables.exec = Jvm.exec) (hb : c.code = cc) (hl : l.stackTraces = false) {own cls text : String} {names : List String} {ik is ic mc ms sa : Nat} {A : Nat → Prop}
    (hown : s.vm.findClass own = some m.cls) (hcls : Bundle.fit cls = true) (hnames : ∀ n ∈ names, Bundle.fit n = true)
    (hk : (Cond.classLink own ik cls).before args s = true) (hini : (Cond.initialized cls).before args s = true) (hstr : vk_R own is text sa s) (hat : ∀ w ∈ vx_atS own ic cls names, w.before args s = true)
    (hgood : ∀ w ∈ Cond.classLink own ik cls :: Cond.initialized cls :: vx_atS own ic cls names, vx_ot w = true)
    (hU : vx_Zq Bundle.tN "UNASSIGNED_STACK" Bundle.steD A s s.heap) (hN : vx_Zq Bundle.tN "SUPPRESSED_SENTINEL" Bundle.listD A s s.heap) (hS : va_S A s.heap H locs) (hsize : ls.size = c.maxLocals)
    (d0 : decode cc pc = .ok (.new ik, 3)) (d3 : decode cc (pc + 3) = .ok (.dup, 1)) (d4 : decode cc (pc + 4) = .ok (.ldc is, 2)) (d6 : decode cc (pc + 6) = .ok (.invokespecial ic, 3)) (d9 : decode cc (pc + 9) = .ok (.athrow, 1))
    (hout : ∀ x ∈ c.exceptionTable.toList, covers x (pc + 9) = false)
    (hRframes : names.length + 3 < R.frames) (hRlocals : (rest.map fun v => v.category).sum + (13 * (names.length + 1) + 43) ≤ R.locals) (hRcells : cells + 1 ≤ R.cells) (hRslots : slots + 6 ≤ R.slots) (hlocks : meth.locks = false)
    (hx : ∀ t : State, s.vm.Alike t.vm → H.size ≤ t.heap.size → (∀ q : Nat, q < H.size → t.heap[q]? = H[q]?) → t.heap.size ≤ H.size + 1 → slotSum t.heap ≤ slotSum H + 6 → XC cls s t)
    (hf : ∀ z ∈ locs, free z.base) (hc : cells + 1 ≤ mc) (hs : slots + 6 ≤ ms) :
    W p l e R s m args below meth c H locs cells slots (vx_MQ below Qc XC args s mc ms free) (F0 m pc ls rest) := by
  intro T hT X
  have htr : e.platform.stackTraces = false := (show e.platform.stackTraces = l.stackTraces by rw [X.admits.platform]).trans hl
  have Y := vx_rebase X (R' := { frames := R.frames, locals := R.locals, cells := 1, slots := 6 }) (Nat.le_refl _) (Nat.le_refl _) hRcells hRslots
  obtain ⟨s', hA⟩ : ∃ z, z = (T.setVm s.vm).setFrames (.invoking m args :: below) := ⟨_, rfl⟩
  rw [← hA] at Y
  have hvm : s'.vm = s.vm := by rw [hA]; rfl
  have hhp : s'.heap = H := by rw [hA]; exact hT
  have hW0 : s.WarmedH s'.vm := by rw [hvm]; exact State.WarmedH.refl s
  have hat' : ∀ w ∈ vx_atS own ic cls names, w.before args s' = true := fun w hw => vx_ot_at hW0 hvm.symm (hgood w (List.mem_cons_of_mem _ (List.mem_cons_of_mem _ hw))) (hat w hw)
  have hk' : (Cond.classLink own ik cls).before args s' = true := vx_ot_at hW0 hvm.symm (hgood _ List.mem_cons_self) hk
  have hini' : (Cond.initialized cls).before args s' = true := vx_ot_at hW0 hvm.symm (hgood _ (List.mem_cons_of_mem _ List.mem_cons_self)) hini
  have hU' : vx_Zq Bundle.tN "UNASSIGNED_STACK" Bundle.steD A s' s'.heap := by rw [hhp]; exact vx_Zq.moved hW0.alike (hU.kept hS.2.1)
  have hN' : vx_Zq Bundle.tN "SUPPRESSED_SENTINEL" Bundle.listD A s' s'.heap := by rw [hhp]; exact vx_Zq.moved hW0.alike (hN.kept hS.2.1)
  have h : ∀ w ∈ Bundle.ownAtoms own ic cls names, w.before args s' = true := vx_own hat' (vx_isRefq hU'.1) (vx_isRefq hN'.1) hU'.2.word hN'.2.word
  have hown' : s'.vm.findClass own = some m.cls := by rw [hvm]; exact hown
  have hins : (Cond.instantiable cls 6).before args s' = true := h _ (by simp [Bundle.ownAtoms])
  obtain ⟨vm₁, cX, kX, hfX, hkX, -, -, X₁, st1⟩ := Y.newCold hexec (own := own) (C := cls) (index := ik) (n := 6) hown' hk' hins hini'
    (g := F0 m pc ls rest) rfl (by rw [hb]; exact d0) (Nat.le_refl _) (Nat.le_refl _)
  generalize hT1 : (T.setVm vm₁).pushCell { cls := cX, slots := kX.instanceTypes.map defaultValue, vm := .none } = T1 at X₁ st1
  have hcat : (Value.ref T.heap.size).category = 1 := rfl
  have hcellA : T1.heap[T.heap.size]? = some (freshCell cX kX) := by rw [← hT1]; exact State.heap_pushCell_size _ _
  have d3' : decode c.code (pc + 3) = .ok (.dup, 1) := by rw [hb]; exact d3
  have d4' : decode c.code (pc + 4) = .ok (.ldc is, 2) := by rw [hb]; exact d4
  have hstr' : vk_R own is text sa s' := vk_R.warm hW0 hstr
  obtain ⟨U, hsteps, hrun, hend, hW, hsame, ce, hce, hO⟩ := X₁.ctorThrowS hexec htr (own := own) (cls := cls) (names := names) (ic := ic) hown' hcls hnames h (fun x hx => nomatch hx) hfX hkX hcellA (by rw [hhp, hT]; exact Nat.le_refl _) (msg := .ref sa) rfl
    (g := { method := m, pc := pc + 6, locals := ls, stack := .ref sa :: .ref T.heap.size :: .ref T.heap.size :: rest, locked := none }) rfl hsize rfl rfl (rest := rest) rfl
    (by rw [hb]; exact d6) (by rw [hb]; exact d9) hout hRframes (by simp only [List.map_cons, List.sum_cons, hcat]; omega) hlocks
  obtain ⟨f1, f2⟩ := vx_frame hsame
  obtain ⟨bk1, bk2⟩ := st_books Y
  have g1 : U.heap.size ≤ s'.heap.size + (0 + 1) := hsame.2.2.1
  have g2 : U.slotsUsed = s'.slotsUsed + ((U.heap.toList.drop s'.heap.size).map (·.slots.size)).sum := hsame.2.2.2.1
  have g3 : ((U.heap.toList.drop s'.heap.size).map (·.slots.size)).sum ≤ 0 + 6 := hsame.2.2.2.2.1
  have g4 : U.slotsUsed = slotSum U.heap := (State.slotsTrue_iff ({ U with vm := s'.vm } : State)).mp (State.slotsTrue_of_sameButNew ((State.slotsTrue_iff s').mpr bk2) hsame)
  rw [hhp] at f1 f2 g1 bk2
  have hWs : s.WarmedH U.vm := State.WarmedH.trans hW0 hW
  have hcl : s.vm.findClass cls = some ce.cls := by
    have h9 := hO.cls
    rw [hvm] at h9
    exact h9
  have hall : s.sameButNew ({ U with vm := s.vm } : State) locs mc ms := by
    subst hA
    obtain ⟨e1, e2⟩ := hsame
    rw [State.setFrames_setFrames] at e1
    have h2 : (T.setVm s.vm).sameButNew ({ U with vm := s.vm } : State) [] (0 + 1) (0 + 6) := ⟨e1, e2⟩
    have h3 := X.same.trans h2
    rw [List.append_nil] at h3
    exact h3.mono hc hs
  refine ⟨U, ?_, .threw T.heap.size, hrun, hend, Or.inr ⟨T.heap.size, rfl, cls, ce, locs, hx U hWs.alike f1 (fun q hq => f2 q hq (fun z hz => nomatch hz)) (by omega) (by omega), hce, hO.vm, hcl, hWs, hall, hf⟩⟩
  refine st1 _ ?_
  show Steps p.tables e below (T1.setTop { method := m, pc := pc + 3, locals := ls, stack := .ref T.heap.size :: rest, locked := none }) _
  jvm_step X₁.here [X₁.here.top, hexec, d3', Value.category]
  exact X₁.ldcString hexec (own := own) (text := text) (index := is) (a := sa) hown' hstr'.1 hstr'.2
    (g := { method := m, pc := pc + 4, locals := ls, stack := .ref T.heap.size :: .ref T.heap.size :: rest, locked := none }) rfl d4' _ hsteps
end RT0
def exNames : List String := ["java/lang/RuntimeException", "java/lang/Exception"]
/-- the words of a throw: good ones, casts, declarations -/
def atOK (K : KL) (own : String) (ik ic k : Nat) : Prop := Cond.classLink own ik (exn k) ∈ gW ∧ Cond.initialized (exn k) ∈ gW ∧ (∀ w ∈ vx_atS own ic (exn k) exNames, w ∈ gW ∨ (∃ q ∈ K.1, w = .castable q.1 q.2) ∨ ∃ y ∈ K.2.2.1, w = .declares y) ∧ ∀ w ∈ vx_atS own ic (exn k) exNames, vx_ot w = true
section RT
variable {X : Cx} {K : KL} {p : Program} {l : Launch} {e : Env} {R : Room} {s : State} {m : MethodId} {args : Array Value} {below : List Frame} {meth : Method} {c : Code} {nL fr lo : Nat} {Q : State → Prop} {S0 S : Sg} {ad0 : Nat → Nat}
variable {cc : ByteArray} {own : String} {pc : Nat} {lv : List (Nat × Value)} {st : List Value} {rv : Int32 → Option Value} {Qa : Nat → Int32 → Sg → Prop}
theorem good_ot {w : Cond} (h : w ∈ gW) : vx_ot w = true := by
  unfold vx_ot
  rw [(List.mem_filter.mp h).2, Bool.or_true]
theorem LI_tS (h : LI S) : LI (tS S) := ⟨fun k => ⟨(h.1 k).1, Nat.le_succ_of_le (h.1 k).2⟩, h.2⟩
theorem Wd_tS {ad : Nat → Nat} {H H1 : Heap} (hW : Wd X S ad H) (f1 : H.size ≤ H1.size) (f2 : ∀ q : Nat, q < H.size → H1[q]? = H[q]?) (g1 : H1.size ≤ H.size + 1) (g2 : slotSum H1 ≤ slotSum H + 6) (b1 : S.2.1 + 1 ≤ nB1) (b2 : S.2.2 + 6 ≤ nB2) : Wd X (tS S) ad H1 := by
  obtain ⟨a1, a2, a3, a4, a5, a6, a7, a8, a9, a10, a11, a12, a13⟩ := hW
  refine ⟨fun q hq => by rw [f2 q (by omega)]; exact a1 q hq, by omega, by show H1.size ≤ _ + (S.2.1 + 1); omega, by show slotSum H1 ≤ _ + (S.2.2 + 6); omega, b1, b2, a7, a8, fun i hi => ⟨(a9 i hi).1, (a9 i hi).2.kept (f2 _ ?_)⟩, a10, a11, LI_tS a12, a13⟩
  exact (a9 i hi).2.lt
theorem V_throw (C : Cn X K p l R s m meth c cc own nL fr lo) (htab : ∀ x ∈ c.exceptionTable.toList, False) {ik is ic k9 : Nat} {text : String} (hk : k9 = 1 ∨ k9 = 2 ∨ k9 = 3) (hat : atOK K own ik ic k9) (hstr : (own, is, text) ∈ K.2.2.2) (hR : 5 < fr ∧ (st.map fun v => v.category).sum + 82 ≤ lo)
    (d0 : decode cc pc = .ok (.new ik, 3)) (d3 : decode cc (pc + 3) = .ok (.dup, 1)) (d4 : decode cc (pc + 4) = .ok (.ldc is, 2)) (d6 : decode cc (pc + 6) = .ok (.invokespecial ic, 3)) (d9 : decode cc (pc + 9) = .ok (.athrow, 1))
    (h : S.2.1 + 1 ≤ nB1 ∧ S.2.2 + 6 ≤ nB2 ∧ Qa k9 0 (tS S)) : V X p l e R s m args below meth c nL (QM X below args s S0 ad0 rv Qa) S0 ad0 (S) (pc) (lv) (st) := by
  intro h1 h2 ad H locs ls hE hW hL z1 z2 hl
  obtain ⟨b1, b2, hq⟩ := h
  obtain ⟨at1, at2, at3, at4⟩ := hat
  have KKs := C.2.2.2.2.1
  obtain ⟨-, -, kc, -, kd, ks, kU, kN, -⟩ := And.intro KKs.1 KKs.2
  obtain ⟨sa, hsa⟩ := ks _ hstr
  obtain ⟨-, -, -, -, -, -, cf, cl, cc1, cc2, ct9, ch, chs, -⟩ := And.intro C.1 C.2
  have hkeep : ∀ a : Nat, a < (xH X).size → ¬ (xH X).size ≤ a → s.heap[a]? = (xH X)[a]? := fun a ha _ => ch a ha
  obtain ⟨w1, w2, w3, w4, w5, w6, -⟩ := And.intro hW.1 hW.2
  refine vx_throwS2 (names := exNames) (sa := sa) (text := text) C.1 C.2.1 ct9 C.2.2.2.1 (by rcases hk with rfl | rfl | rfl <;> decide +kernel) (by decide +kernel) (KK.w KKs at1 args) (KK.w KKs at2 args) hsa
    (fun w hw => ?_) (fun w hw => ?_) (kU.kept hkeep) (kN.kept hkeep) ⟨z1, fun q hq h9 => ?_, hL⟩ (hl.1.trans C.2.2.1.symm) d0 d3 d4 d6 d9 (fun x hx => (htab x hx).elim) (by rw [cf]; exact hR.1) (by rw [cl, cv_sum]; exact hR.2) (by rw [cc1]; omega) (by rw [cc2]; omega) C.2.2.2.2.2.1
    (fun t _ f1 f2 g1 g2 => ⟨k9, tS S, ad, rfl, hk, Wd_tS hW f1 f2 g1 g2 b1 b2, hE, hq⟩) hL (by omega) (by omega)
  · rcases at3 w hw with h9 | ⟨q, hq9, rfl⟩ | ⟨y, hy9, rfl⟩
    · exact KK.w KKs h9 args
    · exact va_Nw.use rfl (kc q hq9)
    · exact va_Nw.use rfl (kd y hy9)
  · rcases List.mem_cons.mp hw with rfl | hw
    · exact good_ot at1
    · rcases List.mem_cons.mp hw with rfl | hw
      · exact good_ot at2
      · exact at4 w hw
  · have h8 : q < (xH X).size := Nat.not_le.mp h9
    rw [w1 q h8, ch q h8]
/-- a world with one more cell -/
def newS (X : Cx) (S S' : Sg) (id n : Nat) (e : va_E) : Prop := S'.2 = (S.2.1 + 1, S.2.2 + n) ∧ (∀ i, dm S' i ↔ dm S i ∨ i = id) ∧ ¬ dm S id ∧ ct X S' id = e ∧ (∀ i, dm S i → ct X S' i = ct X S i) ∧ okE S' e ∧ (LI S → LI S')
theorem Wd_new {S' : Sg} {ad : Nat → Nat} {H : Heap} {cell : Cell} {id n : Nat} {e9 : va_E} (hW : Wd X S ad H) (hid : id % 64 < 61) (b1 : S.2.1 + 1 ≤ nB1) (b2 : S.2.2 + n ≤ nB2) (hn : cell.slots.size = n) (hS : newS X S S' id n e9)
    (he : ∀ ad' : Nat → Nat, ad' id = H.size → va_at (xD X) vwCl (H.size, cE ad' e9) (H.push cell)) : Wd X S' (fun i => if i = id then H.size else ad i) (H.push cell) ∧ ext S ad S' (fun i => if i = id then H.size else ad i) := by
  obtain ⟨a1, a2, a3, a4, a5, a6, a7, a8, a9, a11, a10, a12, a13⟩ := hW
  obtain ⟨u1, u2, u3, u4, u5, u6, u7⟩ := hS
  have hne : ∀ i, dm S i → i ≠ id := fun i hi h => u3 (h ▸ hi)
  refine ⟨⟨fun q hq => ?_, by rw [Array.size_push]; omega, by rw [Array.size_push, u1]; show _ ≤ _ + (S.2.1 + 1); omega, by rw [slotSum_push, hn, u1]; show _ ≤ _ + (S.2.2 + n); omega, by rw [u1]; exact b1, by rw [u1]; exact b2, ?_, ?_, fun i hi => ?_, fun i hi => ?_, fun i j hi hj hij => ?_, u7 a12, ?_⟩, fun i hi => ⟨(u2 i).mpr (Or.inl hi), if_neg (hne i hi)⟩, fun a h3 h4 => if_neg (by omega)⟩
  · rw [Array.getElem?_push_lt (by omega), ← Array.getElem?_eq_getElem]; exact a1 q hq
  · show (if 62 = id then H.size else ad 62) = _
    rw [if_neg (by omega)]; exact a7
  · show (if 63 = id then H.size else ad 63) = _
    rw [if_neg (by omega)]; exact a8
  · rcases (u2 i).mp hi with h | h
    · have h9 := a9 i h
      show (xH X).size ≤ (if i = id then H.size else ad i) ∧ va_at (xD X) vwCl ((if i = id then H.size else ad i), _) _
      rw [if_neg (hne i h), u5 i h, cE_congr (S := S) (ad := ad) ?_ (a11 i h)]
      · refine ⟨h9.1, h9.2.kept ?_⟩
        show (H.push cell)[ad i]? = H[ad i]?
        have hlt : ad i < H.size := h9.2.lt
        rw [Array.getElem?_push_lt hlt, ← Array.getElem?_eq_getElem]
      · intro a ha
        rcases ha with rfl | ha
        · exact if_neg (by omega)
        · exact if_neg (hne a ha)
    · subst h
      show (xH X).size ≤ (if i = i then H.size else ad i) ∧ va_at (xD X) vwCl ((if i = i then H.size else ad i), _) _
      rw [if_pos rfl, u4]
      exact ⟨a2, he _ (if_pos rfl)⟩
  · rcases (u2 i).mp hi with h | h
    · rw [u5 i h]; exact okE_mono (fun a ha => (u2 a).mpr (Or.inl ha)) (a11 i h)
    · rw [h, u4]; exact u6
  · have hlt : ∀ i, dm S i → ad i < H.size := fun i h => (a9 i h).2.lt
    show i = j
    have hij' : (if i = id then H.size else ad i) = (if j = id then H.size else ad j) := hij
    rcases (u2 i).mp hi with h | h <;> rcases (u2 j).mp hj with h' | h'
    · rw [if_neg (hne i h), if_neg (hne j h')] at hij'; exact a10 i j h h' hij'
    · rw [if_neg (hne i h), if_pos h'] at hij'; have := hlt i h; omega
    · rw [if_pos h, if_neg (hne j h')] at hij'; have := hlt j h'; omega
    · rw [h, h']
  · show (if 61 = id then H.size else ad 61) = _
    rw [if_neg (by omega)]; exact a13
theorem V_new (C : Cn X K p l R s m meth c cc own nL fr lo) {Cc : String} {T : u_T} {N ci index id : Nat} (hc : vwCl[ci]? = some (Cc, T, N)) (hin : ∀ w ∈ u_ws Cc T N, w ∈ gW) (ty0 : Nat → FieldType) (hty : ∀ k, k < N → parseFieldDescriptor (T k).2.2.1 = some (ty0 k)) (w1 : Cond.classLink own index Cc ∈ gW) (w2 : Cond.instantiable Cc N ∈ gW) (w3 : Cond.initialized Cc ∈ gW)
    (hid : id % 64 < 61) {fs : List Value} (hfs : ∀ k, k < N → fs[k]? = some (defaultValue (ty0 k))) (hfl : fs.length = N) {S' : Sg} (hS' : newS X S S' id N (.inr (ci, fs))) (hb : S.2.1 + 1 ≤ nB1 ∧ S.2.2 + N ≤ nB2) (hdg : decode cc pc = .ok (.new index, 3))
    (k : V X p l e R s m args below meth c nL Q S0 ad0 (S') (pc + 3) (lv) (.ref id :: st)) : V X p l e R s m args below meth c nL Q S0 ad0 (S) (pc) (lv) (st) := by
  intro h1 h2 ad H locs ls hE hW hL z1 z2 hl
  have KKs := C.2.2.2.2.1
  obtain ⟨w1', w2', w3', w4', w5', w6', -⟩ := And.intro hW.1 hW.2
  obtain ⟨-, -, -, -, -, -, cf, cl, cc1, cc2, -⟩ := And.intro C.1 C.2
  refine W.newc C.1 C.2.1 C.2.2.2.1 (KK.w KKs w1 args) (KK.w KKs w2 args) (KK.w KKs w3 args) rfl hdg (by rw [cc1]; omega) (by rw [cc2]; omega) (fun cC kC g1 g2 g3 g4 => ?_)
  have hKn := KKs.1.1 ci _ hc
  have hcC : (xD X).1 ci = cC := Option.some.inj (hKn.2.1.symm.trans g1)
  obtain ⟨hW', hx⟩ := Wd_new (cell := { cls := cC, slots := kC.instanceTypes.map defaultValue, vm := .none }) hW hid hb.1 hb.2 (by simp [g4]) hS' (fun ad' had => by
    have hcell : (H.push ({ cls := cC, slots := kC.instanceTypes.map defaultValue, vm := .none } : Cell))[H.size]? = some (blank ((xD X).1 ci) kC) := by rw [hcC]; simp [blank]
    have h9 := u_born (o := H.size) ty0 (fun w hw => KK.w KKs hw args) hin hKn (by rw [hcC]; exact g2) hcell hty
    refine ⟨_, hc, t_OB.to h9 (fun j hj => ?_)⟩
    show defaultValue (ty0 j) = vp_V (fs.map (cv ad')) j
    unfold vp_V
    rw [List.getD_eq_getElem?_getD, List.getElem?_map, hfs j hj]
    cases ty0 j <;> rfl)
  have kk := k ⟨Or.inr ((hS'.2.1 id).mpr (Or.inr rfl)), ext_okL hx h1⟩ (ext_okl hx h2) _ _ locs ls (ext_tr hE hx) hW' hL (by rw [Array.size_push]; omega) (by rw [slotSum_push]; omega) (by rw [ext_lvc hx h2]; exact hl)
  rw [Array.size_push, slotSum_push] at kk
  have e2 : (({ cls := cC, slots := kC.instanceTypes.map defaultValue, vm := .none } : Cell)).slots.size = N := by simp [g4]
  rw [e2] at kk
  have e3 : (Value.ref id :: st).map (cv fun i => if i = id then H.size else ad i) = .ref H.size :: st.map (cv ad) := by
    rw [List.map_cons, ext_map hx h1]
    show Value.ref (if id = id then H.size else ad id) :: _ = _
    rw [if_pos rfl]
  rw [e3] at kk
  exact W.cs (by omega) (by omega) kk
theorem V_newarr (C : Cn X K p l R s m meth c cc own nL fr lo) {atype : ArrayType} {id N : Nat} {cA : ClassId} {n : Int32} {a9 : vp_A} (ha : a9.1 = N) (hz : (∃ f : Nat → Int32, a9.2 = .inl f ∧ (∀ j, f j = 0) ∧ ((newarray.typeOf atype = .int ∧ cA = xI X) ∨ (newarray.typeOf atype = .int ∧ cA = xI X))) ∨ (∃ f : Nat → Int64, a9.2 = .inr (.inl f) ∧ (∀ j, f j = 0) ∧ newarray.typeOf atype = .long ∧ False))
    (w1 : Cond.arrayClass (newarray.typeOf atype) ∈ gW) (hid : id % 64 < 61) (hn : ¬ n < 0) (hN : nt n = N) (hN2 : N ≤ 65536) {S' : Sg} (hS' : newS X S S' id N (.inl (cA, a9))) (hb : S.2.1 + 1 ≤ nB1 ∧ S.2.2 + N ≤ nB2) (hdg : decode cc pc = .ok (.newarray atype, 2))
    (k : V X p l e R s m args below meth c nL Q S0 ad0 (S') (pc + 2) (lv) (.ref id :: st)) : V X p l e R s m args below meth c nL Q S0 ad0 (S) (pc) (lv) (.int n :: st) := by
  intro h1 h2 ad H locs ls hE hW hL z1 z2 hl
  have KKs := C.2.2.2.2.1
  obtain ⟨w1', w2', w3', w4', w5', w6', -⟩ := And.intro hW.1 hW.2
  obtain ⟨-, -, -, -, -, -, cf, cl, cc1, cc2, -⟩ := And.intro C.1 C.2
  have hNn : n.toNatClampNeg = N := hN
  have hbytes : N * componentBytes (newarray.typeOf atype) ≤ 536870912 := by
    have : componentBytes (newarray.typeOf atype) ≤ 8 := by
      rcases hz with ⟨f, -, -, ⟨h, -⟩ | ⟨h, -⟩⟩ | ⟨f, -, -, h, -⟩ <;> rw [h] <;> decide
    calc N * _ ≤ 65536 * 8 := Nat.mul_le_mul hN2 this
      _ ≤ 536870912 := by decide
  refine W.newa C.1 C.2.1 (KK.w KKs w1 args) rfl hdg rfl hn (by rw [hNn]; exact hbytes) (by rw [cc1]; omega) (by rw [cc2, hNn]; omega) (fun cB kB comp g1 g2 g3 => ?_)
  rw [hNn]
  have hcA : cA = cB := by
    rcases hz with ⟨f, -, -, ⟨h, e9⟩ | ⟨h, e9⟩⟩ | ⟨f, -, -, h, e9⟩
    · rw [h] at g1; rw [e9]; exact Option.some.inj ((KKs.1.2 0 _ rfl).2.symm.trans g1)
    · rw [h] at g1; rw [e9]; exact Option.some.inj ((KKs.1.2 1 _ rfl).2.symm.trans g1)
    · exact e9.elim
  subst hcA
  have hcellE : ({ cls := cA, slots := Array.replicate N (defaultValue (newarray.typeOf atype)), vm := .none } : Cell) = vp_cell cA a9 := by
    obtain ⟨N', a2⟩ := a9
    obtain rfl : N' = N := ha
    have e0 : ∀ v : Value, (Array.replicate N' v) = Array.ofFn (n := N') (fun _ => v) := fun v => by
      apply Array.ext
      · simp
      · intro i h9 h8; simp
    rcases hz with ⟨f, rfl, hf, ⟨h, -⟩ | ⟨h, -⟩⟩ | ⟨f, rfl, hf, h, -⟩
    · rw [h, vp_cell_i, arrV, e0]; simp only [hf]; rfl
    · rw [h, vp_cell_i, arrV, e0]; simp only [hf]; rfl
    · rw [h, vp_cell_l, arrV, e0]; simp only [hf]; rfl
  have hce : ∀ ad' : Nat → Nat, cE ad' (.inl (cA, a9)) = .inl (cA, a9) := by
    intro ad'
    obtain ⟨N', a2⟩ := a9
    rcases hz with ⟨f, rfl, -⟩ | ⟨f, rfl, -⟩ <;> rfl
  obtain ⟨hW', hx⟩ := Wd_new (cell := { cls := cA, slots := Array.replicate N (defaultValue (newarray.typeOf atype)), vm := .none }) hW hid hb.1 hb.2 (by simp) hS' (fun ad' had => by
    rw [hce ad']
    show (H.push _)[H.size]? = some (vp_cell cA a9)
    rw [hcellE]
    simp)
  have kk := k ⟨Or.inr ((hS'.2.1 id).mpr (Or.inr rfl)), ext_okL hx h1.2⟩ (ext_okl hx h2) _ _ locs ls (ext_tr hE hx) hW' hL (by rw [Array.size_push]; omega) (by rw [slotSum_push]; omega) (by rw [ext_lvc hx h2]; exact hl)
  rw [Array.size_push, slotSum_push] at kk
  have e2 : (({ cls := cA, slots := Array.replicate N (defaultValue (newarray.typeOf atype)), vm := .none } : Cell)).slots.size = N := by simp
  rw [e2] at kk
  have e3 : (Value.ref id :: st).map (cv fun i => if i = id then H.size else ad i) = .ref H.size :: st.map (cv ad) := by
    rw [List.map_cons, ext_map hx h1.2]
    show Value.ref (if id = id then H.size else ad id) :: _ = _
    rw [if_pos rfl]
  rw [e3] at kk
  exact W.cs (by omega) (by omega) kk
end RT
