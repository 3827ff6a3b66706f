/-! the lists' rows: an array of references made, read, written, copied; casts; the empty row; the class object -/
abbrev QA (n : Nat) (f : Nat → Option Nat) : vp_A := (n, .inr (.inr (.inr (.inr f))))
section WAC
variable {p : Program} {l : Launch} {e : Env} {R : Room} {s : State} {m : MethodId} {args : Array Value} {below : List Frame} {meth : Method} {c : Code} {H : Heap} {locs : List Loc} {cells slots : Nat} {Q : State → Prop}
variable {cc : ByteArray} {pc : Nat} {ls : Array Slot} {rest : List Value} {D : va_G} {cl : List vw_C} {tys : List (ClassId × FieldType)} {a a0 : Nat}
theorem W_acopy (hexec : p.tables.exec = Jvm.exec) (hb : c.code = cc) (hml : c.maxLocals = ls.size) {own : String} {index : Nat} (hown : s.vm.findClass own = some m.cls) (hlink : (Cond.methodLink own index arraycopyName).before args s = true) (hnat : (Cond.native arraycopyName).before args s = true) (hstat : (Cond.static arraycopyName).before args s = true) (hini : (Cond.initialized "java/lang/System").before args s = true)
    (hK : va_K D cl tys s) (t0 : Nat) {cA : ClassId} {n0 n1 : Nat} {f g : Nat → Option Nat} {E C : String} (ht : tys[t0]? = some (cA, .object E)) (hc0 : H[a0]? = some (vp_cell cA (QA n0 f))) (hc1 : H[a]? = some (vp_cell cA (QA n1 g)))
    {n : Int32} (h3 : ¬ n < 0) (h4 : nt n ≤ n0) (h5 : nt n ≤ n1) (hel : ∀ (i y : Nat), i < nt n → f i = some y → ∃ cellV : Cell, H[y]? = some cellV ∧ cellV.vm.isStatics = false ∧ s.vm.findClass C = some cellV.cls) (hasg : ∀ comp c0 : ClassId, s.vm.findClass E = some comp → s.vm.findClass C = some c0 → s.vm.assignable c0 comp = true)
    (hframes : 1 ≤ R.frames) (hlocals : (rest.map fun v => v.category).sum + (nativeFrameWords "java/lang/System" "arraycopy" 5 + 11) ≤ R.locals) (hdg : decode cc pc = .ok (.invokestatic index, 3))
    (kk : ∀ (H1 : Heap) (L : List Loc), (∀ z ∈ L, z.base = a) → H1.size = H.size → H1[a]? = some (vp_cell cA (QA n1 (va_cpy f g 0 0 (nt n)))) → (∀ q : Nat, q ≠ a → H1[q]? = H[q]?) → W p l e R s m args below meth c H1 (locs ++ L) cells slots Q (F0 m (pc + 3) ls rest)) : W p l e R s m args below meth c H locs cells slots Q (F0 m pc ls (.int n :: .int 0 :: .ref a :: .int 0 :: .ref a0 :: rest)) := by
  have nn : n.toInt = (nt n : Int) := by
    have hz0 : (0 : Int) ≤ n.toInt := by
      have := Int32.not_lt.mp h3
      simpa using Int32.le_iff_toInt_le.mp this
    show n.toInt = ((n.toInt.toNat : Nat) : Int)
    omega
  have z0 : (0 : Int32).toInt = 0 := by decide
  have z1 : (0 : Int32).toNatClampNeg = 0 := by decide
  intro T hT X
  obtain ⟨-, k0, hk0, cm0, hkk0⟩ := (hK.2 t0 _ ht).1 n0 (fun j => va_rf (f j))
  obtain ⟨-, k1, hk1, cm1, hkk1⟩ := (hK.2 t0 _ ht).1 n1 (fun j => va_rf (g j))
  obtain ⟨vm', X', step⟩ := X.arraycopy hexec hown hlink hnat hstat hini (src := a0) (dst := a) (cs := vp_cell cA (QA n0 f)) (cd := vp_cell cA (QA n1 g)) (srcPos := 0) (destPos := 0) (n := n) (by rw [hT]; exact hc0) (by rw [hT]; exact hc1)
    (fun _ h => by cases h) (fun _ h => by cases h) (fun h => by cases h) (fun h => by cases h) hk0 hk1 hkk0 hkk1 rfl (by decide) (by decide) h3
    (by rw [nn, z0]; show ¬ _ > ((arrV cA n0 (fun j => va_rf (f j))).slots.size : Int); rw [arrV_size]; omega)
    (by rw [nn, z0]; show ¬ _ > ((arrV cA n1 (fun j => va_rf (g j))).slots.size : Int); rw [arrV_size]; omega)
    (fun vm₁ hal i hi => by
      have hi' : i < nt n := hi
      have e : (vp_cell cA (QA n0 f)).slots.getD ((0 : Int32).toNatClampNeg + i) .null = va_rf (f i) := by
        rw [z1, Nat.zero_add]
        show (arrV cA n0 (fun j => va_rf (f j))).slots.getD _ _ = _
        rw [Array.getD_eq_getD_getElem?, arrV_read _ _ (by omega)]
        rfl
      rw [e]
      cases hy : f i with
      | none => exact ⟨rfl, trivial⟩
      | some y =>
        obtain ⟨cellV, g1, g2, g3⟩ := hel i y hi' hy
        obtain ⟨kA, comp, r1, r2, r3, -⟩ := (hK.2 t0 _ ht).2
        cases hk1.symm.trans r1
        cases hkk1.symm.trans r2
        obtain ⟨kC, hkC, -⟩ := Vm.findClass_spec g3
        obtain ⟨kE, hkE, -⟩ := Vm.findClass_spec r3
        obtain ⟨kC', hkC', -⟩ := hal.2.2 _ _ hkC
        obtain ⟨kE', hkE', -⟩ := hal.2.2 _ _ hkE
        refine ⟨rfl, cellV, (show T.heap[y]? = some cellV by rw [hT]; exact g1), (fun q h => by rw [h] at g2; cases g2), ⟨kC', hkC'⟩, ⟨kE', hkE'⟩, ?_⟩
        show vm₁.assignable _ _ = true
        rw [hal.assignable]
        exact hasg _ _ r3 g3)
    (g := F0 m pc ls (.int n :: .int 0 :: .ref a :: .int 0 :: .ref a0 :: rest)) rfl (by rw [hml]) (rest := rest) rfl (by rw [hb]; exact hdg) hframes (by show 2 * 0 + _ + _ ≤ _; omega)
  have e1 : copied (vp_cell cA (QA n0 f)) (vp_cell cA (QA n1 g)) 0 0 n = vp_cell cA (QA n1 (va_cpy f g 0 0 (nt n))) := by
    rw [vp_cell_q, vp_cell_q, vp_cell_q]
    exact va_copied (fun z => va_rf z) cA cA f g (by rw [z1, Nat.zero_add]; exact h4)
  rw [e1] at X' step
  have hl : a < H.size := (Array.getElem?_eq_some_iff.mp hc1).1
  have hheap : ((T.setVm vm').setCell a (vp_cell cA (QA n1 (va_cpy f g 0 0 (nt n))))).heap = H.setIfInBounds a (vp_cell cA (QA n1 (va_cpy f g 0 0 (nt n)))) := by rw [← hT]; rfl
  obtain ⟨t, a1, b1⟩ := kk _ _ (fun q hq => by obtain ⟨z, -, hz⟩ := List.mem_map.mp hq; rw [← hz]) (by rw [Array.size_setIfInBounds]) (show (H.setIfInBounds a _)[a]? = some _ by simp [Array.getElem?_setIfInBounds, hl]) (fun q hq => by simp [Array.getElem?_setIfInBounds, Ne.symm hq]) _ hheap X'
  exact ⟨t, step t a1, b1⟩
end WAC
theorem nI_nt {x : Int32} (h : ¬ x < 0) : nI (nt x) = x := by
  apply Int32.toInt_inj.mp
  have hz0 : (0 : Int) ≤ x.toInt := by
    have := Int32.not_lt.mp h
    simpa using Int32.le_iff_toInt_le.mp this
  have h2 := nt_lt x
  have e : (nt x : Int) = x.toInt := by show ((x.toInt.toNat : Nat) : Int) = _; omega
  rw [← e]
  exact Int32.toInt_ofNat_of_lt (by omega)
section RL
variable {X : Cx} {K : KL} {p : Program} {l : Launch} {e : Env} {R : Room} {s : State} {m : MethodId} {args : Array Value} {below : List Frame} {meth : Method} {c : Code} {nL fr lo : Nat} {Q : State → Prop} {S0 S : Sg} {ad0 : Nat → Nat}
variable {cc : ByteArray} {own : String} {pc : Nat} {lv : List (Nat × Value)} {st : List Value} {tb : Tb} {index i : Nat}
theorem V_LI (C : Cn X K p l R s m meth c cc own nL fr lo) (k : LI S → V X p l e R s m args below meth c nL Q S0 ad0 (S) (pc) (lv) (st)) : V X p l e R s m args below meth c nL Q S0 ad0 (S) (pc) (lv) (st) := by
  intro h1 h2 ad H locs ls hE hW hL z1 z2 hl
  exact k hW.2.2.2.2.2.2.2.2.2.2.2.1 h1 h2 ad H locs ls hE hW hL z1 z2 hl
/-- ghosts may grow -/
theorem V_up (C : Cn X K p l R s m meth c cc own nL fr lo) {a b : Nat} (ha : a ≤ nB1) (hb : b ≤ nB2) (ha2 : S.2.1 ≤ a) (hb2 : S.2.2 ≤ b) (k : V X p l e R s m args below meth c nL Q S0 ad0 ((S.1, a, b)) (pc) (lv) (st)) : V X p l e R s m args below meth c nL Q S0 ad0 (S) (pc) (lv) (st) := by
  intro h1 h2 ad H locs ls hE hW hL z1 z2 hl
  obtain ⟨a1, a2, a3, a4, a5, a6, a7, a8, a9, a10, a11, a12, a13⟩ := hW
  have hx : ext S ad (S.1, a, b) ad := ext_dmS fun _ h => h
  exact k (ext_okL hx h1) (ext_okl hx h2) ad H locs ls (ext_tr hE hx) ⟨a1, a2, Nat.le_trans a3 (Nat.add_le_add_left ha2 _), Nat.le_trans a4 (Nat.add_le_add_left hb2 _), ha, hb, a7, a8, a9, a10, a11, ⟨fun k => ⟨(a12.1 k).1, Nat.le_trans (a12.1 k).2 ha2⟩, a12.2⟩, a13⟩ hL z1 z2 hl
theorem V_objI (C : Cn X K p l R s m meth c cc own nL fr lo) {id : Nat} (w1 : Cond.methodLink own index Lib.objectInit ∈ gW) (w2 : Cond.instanceMethod Lib.objectInit ∈ gW) (w3 : Cond.code Lib.objectInit ⟨#[0xb1]⟩ 1 none ∈ gW) (hR : 1 ≤ fr ∧ (st.map fun v => v.category).sum + 12 ≤ lo) (hdg : decode cc pc = .ok (.invokespecial index, 3)) (k : V X p l e R s m args below meth c nL Q S0 ad0 (S) (pc + 3) (lv) (st)) : V X p l e R s m args below meth c nL Q S0 ad0 (S) (pc) (lv) (.ref id :: st) := by
  intro h1 h2 ad H locs ls hE hW hL z1 z2 hl
  obtain ⟨-, -, -, -, -, -, cf, cl, -⟩ := And.intro C.1 C.2
  exact W.objInit C.1 C.2.1 C.2.2.2.1 (KK.w C.2.2.2.2.1 w1 args) (KK.w C.2.2.2.2.1 w2 args) (KK.w C.2.2.2.2.1 w3 args) rfl (hl.1.trans C.2.2.1.symm) rfl hdg (by rw [cf]; exact hR.1) (by show 2 * 0 + ((st.map (cv ad)).map fun v => v.category).sum + 12 ≤ _; rw [cl, cv_sum]; omega) (k h1.2 h2 ad H locs ls hE hW hL z1 z2 hl)
theorem V_nx {S' : Sg} (k : ∀ S1, S1 = S' → V X p l e R s m args below meth c nL Q S0 ad0 (S1) (pc) (lv) (st)) : V X p l e R s m args below meth c nL Q S0 ad0 (S') (pc) (lv) (st) := k S' rfl
theorem V_nI {y : Int32} (k : ∀ x, x = y → V X p l e R s m args below meth c nL Q S0 ad0 (S) (pc) (lv) (.int x :: st)) : V X p l e R s m args below meth c nL Q S0 ad0 (S) (pc) (lv) (.int y :: st) := k y rfl
theorem V_nL {y : Int64} (k : ∀ x, x = y → V X p l e R s m args below meth c nL Q S0 ad0 (S) (pc) (lv) (.long x :: st)) : V X p l e R s m args below meth c nL Q S0 ad0 (S) (pc) (lv) (.long y :: st) := k y rfl
theorem V_nR {kd : Nat} {y : Int32} (k : ∀ x, x = y → V X p l e R s m args below meth c nL Q S0 ad0 (S) (pc) (lv) (.ref (enc kd (nt x)) :: st)) : V X p l e R s m args below meth c nL Q S0 ad0 (S) (pc) (lv) (.ref (enc kd (nt y)) :: st) := k y rfl
/-- a reference's column set: the index is not negative -/
theorem V_putN (C : Cn X K p l R s m meth c cc own nL fr lo) (hT : xT X = tb) (hok : tbOK tb = true) {kd k9 ci N c9 k' : Nat} {Cc : String} {T : u_T} {ty0 : Nat → FieldType} (F : FI tb kd k9 (2, c9, k') ci Cc T N ty0) (hk' : k' < 61 ∧ k' ≠ 13) (hoc : oc c9 = true ∧ c9 ≠ 15 ∧ lc c9) (hlink : Cond.fieldLink own index Cc (T k9).2.1 (T k9).2.2.1 ∈ gW) (hfin : (T k9).2.2.2 = false ∨ ((T k9).2.2.2 = true ∧ meth.name = "<init>" ∧ (T k9).1 = own))
    {x : Int32} (hty : (∃ n, ty0 k9 = .object n) ∨ ∃ t, ty0 k9 = .array t) (hdg : decode cc pc = .ok (.putfield index, 3)) {A : Prop} (h : ¬ x < 0 ∧ A) (k : A → V X p l e R s m args below meth c nL Q S0 ad0 (su S c9 i x) (pc + 3) (lv) (st)) : V X p l e R s m args below meth c nL Q S0 ad0 (S) (pc) (lv) (.ref (enc k' (nt x)) :: .ref (enc kd i) :: st) := by
  refine V_putR C hT hok F hk' hoc hlink hfin (x := nt x) hty hdg ?_
  rw [nI_nt h.1]
  exact k h.2
theorem V_null (C : Cn X K p l R s m meth c cc own nL fr lo) (hdg : decode cc pc = .ok (.aconst_null, 1)) (k : V X p l e R s m args below meth c nL Q S0 ad0 (S) (pc + 1) (lv) (.null :: st)) : V X p l e R s m args below meth c nL Q S0 ad0 (S) (pc) (lv) (st) := by
  intro h1 h2 ad H locs ls hE hW hL z1 z2 hl
  exact lv_null C.1 C.2.1 hdg (k ⟨trivial, h1⟩ h2 ad H locs ls hE hW hL z1 z2 hl)
theorem V_dup_x1 (C : Cn X K p l R s m meth c cc own nL fr lo) {va vb : Value} (hdg : decode cc pc = .ok (.dup_x1, 1)) (hva : va.category = 1) (hvb : vb.category = 1) (k : V X p l e R s m args below meth c nL Q S0 ad0 (S) (pc + 1) (lv) (va :: vb :: va :: st)) : V X p l e R s m args below meth c nL Q S0 ad0 (S) (pc) (lv) (va :: vb :: st) := by
  intro h1 h2 ad H locs ls hE hW hL z1 z2 hl
  exact lv_dup_x1 C.1 C.2.1 hdg (by rw [cv_cat]; exact hva) (by rw [cv_cat]; exact hvb) (k ⟨h1.1, h1.2.1, h1.1, h1.2.2⟩ h2 ad H locs ls hE hW hL z1 z2 hl)
theorem V_ishr (C : Cn X K p l R s m meth c cc own nL fr lo) {x y : Int32} (hdg : decode cc pc = .ok (.ishr, 1)) (k : V X p l e R s m args below meth c nL Q S0 ad0 (S) (pc + 1) (lv) (.int (x >>> (y &&& 31)) :: st)) : V X p l e R s m args below meth c nL Q S0 ad0 (S) (pc) (lv) (.int y :: .int x :: st) := by
  intro h1 h2 ad H locs ls hE hW hL z1 z2 hl
  exact lv_ishr C.1 C.2.1 hdg (k ⟨trivial, h1.2.2⟩ h2 ad H locs ls hE hW hL z1 z2 hl)
theorem V_acmp_eqS (C : Cn X K p l R s m meth c cc own nL fr lo) {a : Nat} {off : Int} {tgt : Nat} (hdg : decode cc pc = .ok (.if_acmp .eq off, 3)) (ht : (pc : Int) + off = (tgt : Int)) (kt : V X p l e R s m args below meth c nL Q S0 ad0 (S) (tgt) (lv) (st)) : V X p l e R s m args below meth c nL Q S0 ad0 (S) (pc) (lv) (.ref a :: .ref a :: st) := by
  intro h1 h2 ad H locs ls hE hW hL z1 z2 hl
  exact lv_acmp_eq (rx := some (ad a)) (ry := some (ad a)) C.1 C.2.1 hdg ht (fun _ => kt h1.2.2 h2 ad H locs ls hE hW hL z1 z2 hl) (fun h => absurd rfl h)
theorem V_acmp_neS (C : Cn X K p l R s m meth c cc own nL fr lo) {a : Nat} {off : Int} {tgt : Nat} (hdg : decode cc pc = .ok (.if_acmp .ne off, 3)) (ht : (pc : Int) + off = (tgt : Int)) (kt : V X p l e R s m args below meth c nL Q S0 ad0 (S) (pc + 3) (lv) (st)) : V X p l e R s m args below meth c nL Q S0 ad0 (S) (pc) (lv) (.ref a :: .ref a :: st) := by
  intro h1 h2 ad H locs ls hE hW hL z1 z2 hl
  exact lv_acmp_ne (rx := some (ad a)) (ry := some (ad a)) C.1 C.2.1 hdg ht (fun h => absurd rfl h) (fun _ => kt h1.2.2 h2 ad H locs ls hE hW hL z1 z2 hl)
theorem wd_S (C : Cn X K p l R s m meth c cc own nL fr lo) {ad : Nat → Nat} {H : Heap} {locs : List Loc} (hW : Wd X S ad H) (hL : ∀ z ∈ locs, (xH X).size ≤ z.base) (z1 : s.heap.size ≤ H.size) : va_S (fun q => (xH X).size ≤ q) s.heap H locs := by
  obtain ⟨-, -, -, -, -, -, cf, cl, cc1, cc2, ct9, ch, chs, -⟩ := And.intro C.1 C.2
  refine ⟨z1, fun q hq h9 => ?_, hL⟩
  have h8 : q < (xH X).size := Nat.not_le.mp h9
  rw [hW.1 q h8, ch q h8]
theorem V_empty (C : Cn X K p l R s m meth c cc own nL fr lo) (hlink : Cond.fieldLink own index "java/util/ArrayList" "DEFAULTCAPACITY_EMPTY_ELEMENTDATA" "[Ljava/lang/Object;" ∈ gW) (hdg : decode cc pc = .ok (.getstatic index, 3)) (k : V X p l e R s m args below meth c nL Q S0 ad0 (S) (pc + 3) (lv) (.ref 62 :: st)) : V X p l e R s m args below meth c nL Q S0 ad0 (S) (pc) (lv) (st) := by
  intro h1 h2 ad H locs ls hE hW hL z1 z2 hl
  have kk := k ⟨Or.inl (by decide), h1⟩ h2 ad H locs ls hE hW hL z1 z2 hl
  have e : (Value.ref 62 :: st).map (cv ad) = .ref (xE X) :: st.map (cv ad) := by
    show Value.ref (ad 62) :: _ = _
    rw [hW.2.2.2.2.2.2.1]
  rw [e] at kk
  have KKs := C.2.2.2.2.1
  obtain ⟨-, -, -, -, -, -, -, -, hZ, -⟩ := KKs
  obtain ⟨-, -, -, -, -, -, cf, cl, cc1, cc2, ct9, ch, chs, -⟩ := And.intro C.1 C.2
  exact va_gets C.1 C.2.1 (hZ.kept (fun a ha _ => ch a ha)) (wd_S C hW hL z1) C.2.2.2.1 (KK.w C.2.2.2.2.1 hlink args) (fun _ h => h) hdg kk
theorem V_elen (C : Cn X K p l R s m meth c cc own nL fr lo) (hdg : decode cc pc = .ok (.arraylength, 1)) (k : V X p l e R s m args below meth c nL Q S0 ad0 (S) (pc + 1) (lv) (.int 0 :: st)) : V X p l e R s m args below meth c nL Q S0 ad0 (S) (pc) (lv) (.ref 62 :: st) := by
  intro h1 h2 ad H locs ls hE hW hL z1 z2 hl
  have KKs := C.2.2.2.2.1
  obtain ⟨-, -, -, -, -, -, -, -, -, ⟨cell, g1, g2, g3, g4⟩, -⟩ := KKs
  have hlt : xE X < (xH X).size := (Array.getElem?_eq_some_iff.mp g1).1
  have hc : H[ad 62]? = some cell := by rw [hW.2.2.2.2.2.2.1, hW.1 _ hlt]; exact g1
  exact W.alen C.1 C.2.1 hc g3 g2 rfl rfl hdg (k ⟨trivial, h1.2⟩ h2 ad H locs ls hE hW hL z1 z2 hl)
/-- a list's row -/
theorem ct_q (hT : xT X = tb) (ha : tbArr tb) {a : Nat} : ct X S (enc 2 a) = .inl (xO X, QA (nt (S.1 14 a)) (fun t => if t < nt (S.1 17 a) then some (enc (3 + nt (S.1 16 a)) t) else none)) := by
  rw [ct_arr hT ha.2.2.2.2.2 (by decide)]; rfl
theorem V_qlen (C : Cn X K p l R s m meth c cc own nL fr lo) (hT : xT X = tb) (ha : tbArr tb) {a : Nat} (hp : ¬ S.1 14 a < 0) (hdg : decode cc pc = .ok (.arraylength, 1)) (k : V X p l e R s m args below meth c nL Q S0 ad0 (S) (pc + 1) (lv) (.int (S.1 14 a) :: st)) : V X p l e R s m args below meth c nL Q S0 ad0 (S) (pc) (lv) (.ref (enc 2 a) :: st) := by
  intro h1 h2 ad H locs ls hE hW hL z1 z2 hl
  have hd := okv_dm h1.1 (enc_ne63 (by decide))
  have hce : H[ad (enc 2 a)]? = some (vp_cell (xO X) (QA (nt (S.1 14 a)) (fun t => (if t < nt (S.1 17 a) then some (enc (3 + nt (S.1 16 a)) t) else none).map ad))) := Wd_at hW hd (ct_q hT ha) 0 _ rfl
  refine W.alen C.1 C.2.1 hce ((C.2.2.2.2.1.1.2 3 _ rfl).1 _ (fun t => va_rf ((if t < nt (S.1 17 a) then some (enc (3 + nt (S.1 16 a)) t) else none : Option Nat).map ad))) ?_ rfl rfl hdg (k ⟨trivial, h1.2⟩ h2 ad H locs ls hE hW hL z1 z2 hl)
  show (arrV _ _ _).slots.size.toInt32 = _
  rw [arrV_size]
  exact nI_nt hp
theorem V_aald (C : Cn X K p l R s m meth c cc own nL fr lo) (hT : xT X = tb) (ha : tbArr tb) {a : Nat} {x : Int32} (hx : ¬ x < 0 ∧ nt x < nt (S.1 17 a) ∧ nt (S.1 17 a) ≤ nt (S.1 14 a)) (hdg : decode cc pc = .ok (.aaload, 1)) (k : V X p l e R s m args below meth c nL Q S0 ad0 (S) (pc + 1) (lv) (.ref (enc (3 + nt (S.1 16 a)) (nt x)) :: st)) : V X p l e R s m args below meth c nL Q S0 ad0 (S) (pc) (lv) (.int x :: .ref (enc 2 a) :: st) := by
  intro h1 h2 ad H locs ls hE hW hL z1 z2 hl
  have hd := okv_dm h1.2.1 (enc_ne63 (by decide))
  have hce : H[ad (enc 2 a)]? = some (vp_cell (xO X) (QA (nt (S.1 14 a)) (fun t => (if t < nt (S.1 17 a) then some (enc (3 + nt (S.1 16 a)) t) else none).map ad))) := Wd_at hW hd (ct_q hT ha) 0 _ rfl
  have hok : dm S (enc (3 + nt (S.1 16 a)) (nt x)) := by
    have h9 := hW.2.2.2.2.2.2.2.2.2.1 _ hd
    rw [ct_q hT ha] at h9
    exact h9 (nt x) _ (if_pos hx.2.1)
  have kk := k ⟨Or.inr hok, h1.2.2⟩ h2 ad H locs ls hE hW hL z1 z2 hl
  refine W.aald C.1 C.2.1 hce ((C.2.2.2.2.1.1.2 3 _ rfl).1 _ (fun t => va_rf ((if t < nt (S.1 17 a) then some (enc (3 + nt (S.1 16 a)) t) else none : Option Nat).map ad))) rfl (fun q => by cases q) (by show ¬ (x < 0 ∨ (arrV _ _ _).slots.size ≤ _); rw [arrV_size]; exact fun q => q.elim hx.1 (fun q => absurd (Nat.lt_of_lt_of_le hx.2.1 hx.2.2) (Nat.not_lt.mpr q))) ?_ rfl rfl hdg kk
  show (arrV _ _ _).slots[x.toNatClampNeg]? = _
  rw [arrV_read _ _ (show x.toNatClampNeg < nt (S.1 14 a) from Nat.lt_of_lt_of_le hx.2.1 hx.2.2)]
  show some (va_rf ((if nt x < nt (S.1 17 a) then _ else _ : Option Nat).map ad)) = _
  rw [if_pos hx.2.1]
  rfl
/-- an object's cell, by its class -/
theorem V_cell (C : Cn X K p l R s m meth c cc own nL fr lo) (hT : xT X = tb) {ad : Nat → Nat} {H : Heap} (hW : Wd X S ad H) {k o ci N : Nat} {Ce : String} {T : u_T} {fds : List Fd3} (hk : k < 61) (hlk : tb.lookup k = some (ci, fds)) (hci : vwCl[ci]? = some (Ce, T, N)) (hd : dm S (enc k o)) : ∃ cell : Cell, H[ad (enc k o)]? = some cell ∧ cell.vm.isStatics = false ∧ s.vm.findClass Ce = some cell.cls :=
  va_recv (q0 := 0) C.2.2.2.2.1.1 (Wd_at hW hd (ct_obj hT hlk (by omega))) hci rfl
theorem V_cast (C : Cn X K p l R s m meth c cc own nL fr lo) (hT : xT X = tb) {k o ci N : Nat} {Ce : String} {T : u_T} {fds : List Fd3} (hk : k < 61) (hlk : tb.lookup k = some (ci, fds)) (hci : vwCl[ci]? = some (Ce, T, N)) (hlink : Cond.classLink own index Ce ∈ gW) (hdg : decode cc pc = .ok (.checkcast index, 3)) (k9 : V X p l e R s m args below meth c nL Q S0 ad0 (S) (pc + 3) (lv) (.ref (enc k o) :: st)) : V X p l e R s m args below meth c nL Q S0 ad0 (S) (pc) (lv) (.ref (enc k o) :: st) := by
  intro h1 h2 ad H locs ls hE hW hL z1 z2 hl
  exact va_castS C.1 C.2.1 C.2.2.2.1 (KK.w C.2.2.2.2.1 hlink args) (C.2.2.2.2.1.1.1 ci _ hci).2 (V_cell C hT hW hk hlk hci (okv_dm h1.1 (enc_ne63 hk))) hdg (k9 h1 h2 ad H locs ls hE hW hL z1 z2 hl)
theorem asg_obj {K : KL} (hK : KK X K s) {Ce : String} (hca : (Ce, "java/lang/Object") ∈ K.1) : ∀ comp c0 : ClassId, s.vm.findClass "java/lang/Object" = some comp → s.vm.findClass Ce = some c0 → s.vm.assignable c0 comp = true := by
  intro comp c0 h1 h2
  obtain ⟨c9, t0, f1, f2, f3⟩ := Cond.castable_spec (va_Nw.use (A := #[]) rfl (hK.2.2.1 _ hca))
  cases f1.symm.trans h2
  cases f2.symm.trans h1
  exact f3
/-- a row's filled part changes -/
theorem upd_q (hT : xT X = tb) (ha : tbArr tb) {a : Nat} {v : Int32} (h : nt (S.1 17 a) ≤ nt v ∧ nt v ≤ nt (S.1 14 a)) : upd1 X S (su S 17 a v) (enc 2 a) (.inl (xO X, QA (nt (S.1 14 a)) (fun t => if t < nt v then some (enc (3 + nt (S.1 16 a)) t) else none))) := by
  refine upd1_ar hT (tbArr_no ha (by decide)) (by decide) (fun hl => ⟨fun k => by rw [su_ne (Or.inl (by decide))]; exact hl.1 k, fun j => ?_⟩) ha.2.2.2.2.2 (by decide) ?_ (fun kd' i' h9 => ?_)
  · rcases hl.2 j with q | ⟨q1, q2, q3, q4, q5, q6, q7⟩
    · left; rw [su_ne (Or.inl (by decide)), su_ne (Or.inl (by decide))]; exact q
    · right
      rw [su_ne (c' := 13) (Or.inl (by decide)), su_ne (c' := 12) (Or.inl (by decide)), su_ne (c' := 10) (Or.inl (by decide)), su_ne (c' := 16) (Or.inl (by decide)), su_ne (c' := 14) (Or.inl (by decide))]
      refine ⟨q1, q2, q3, q4, q5, ?_⟩
      by_cases hj : nt (S.1 13 j) = a
      · rw [hj, su_at]; rw [hj] at q6 q7; exact ⟨Nat.le_trans q6 h.1, h.2, q7.2⟩
      · rw [su_ne (Or.inr hj)]; exact ⟨q6, q7⟩
  · show Sum.inl (_, nt ((su S 17 a v).1 14 a), Sum.inr (Sum.inr (Sum.inr (Sum.inr (fun t => if t < nt ((su S 17 a v).1 17 a) then some (enc (3 + nt ((su S 17 a v).1 16 a)) t) else none))))) = _
    rw [su_at, su_ne (Or.inl (by decide)), su_ne (Or.inl (by decide))]
  · unfold ar
    split
    · rw [su_ne (Or.inl (by decide))]
      have e1 : (fun j' => (su S 17 a v).1 (1000 + 2 * i') j') = fun j' => S.1 (1000 + 2 * i') j' := funext fun q => su_ne (Or.inl (by omega))
      rw [e1]
    · split
      · have e1 : (fun j' => (su S 17 a v).1 (1001 + 2 * i') j') = fun j' => S.1 (1001 + 2 * i') j' := funext fun q => su_ne (Or.inl (by omega))
        rw [e1]
      · split
        · have e1 : (fun j' => (su S 17 a v).1 (mCol i') j') = fun j' => S.1 (mCol i') j' := funext fun q => su_ne (Or.inl (by unfold mCol; split <;> omega))
          rw [e1]
        · split
          · have e1 : (su S 17 a v).1 95 i' = S.1 95 i' := su_ne (Or.inl (by decide))
            rw [e1]
          · split
            · rename_i k2
              have hi : i' ≠ a := fun e => by rcases h9 with h9 | h9; exact h9 k2; exact h9 e
              rw [su_ne (c' := 14) (Or.inl (by decide)), su_ne (c' := 16) (Or.inl (by decide)), su_ne (c' := 17) (Or.inr hi)]
            · rfl
theorem V_aast (C : Cn X K p l R s m meth c cc own nL fr lo) (hT : xT X = tb) (ha : tbArr tb) {a o t ci N : Nat} {x : Int32} {Ce : String} {T : u_T} {fds : List Fd3} (hx : ¬ x < 0 ∧ nt x = t ∧ t ≤ nt (S.1 17 a) ∧ t < nt (S.1 14 a) ∧ nt (S.1 17 a) ≤ nt (S.1 14 a)) (ho : nt (S.1 16 a) = o) (ho6 : 3 + o < 61) (hlk : tb.lookup (3 + o) = some (ci, fds)) (hci : vwCl[ci]? = some (Ce, T, N)) (hca : (Ce, "java/lang/Object") ∈ K.1) (hdg : decode cc pc = .ok (.aastore, 1))
    (k : V X p l e R s m args below meth c nL Q S0 ad0 (su S 17 a (nI (max (nt (S.1 17 a)) (t + 1)))) (pc + 1) (lv) (st)) : V X p l e R s m args below meth c nL Q S0 ad0 (S) (pc) (lv) (.ref (enc (3 + o) t) :: .int x :: .ref (enc 2 a) :: st) := by
  intro h1 h2 ad H locs ls hE hW hL z1 z2 hl
  subst ho
  obtain ⟨x0, x1, x2, x3, x4⟩ := hx
  have hmx : nt (nI (max (nt (S.1 17 a)) (t + 1))) = max (nt (S.1 17 a)) (t + 1) := nt_nI (by have := nt_lt (S.1 14 a); omega)
  have hd := okv_dm h1.2.2.1 (enc_ne63 (by decide))
  have hdv := okv_dm h1.1 (enc_ne63 ho6)
  have hu := upd_q (S := S) hT ha (a := a) (v := nI (max (nt (S.1 17 a)) (t + 1))) (by rw [hmx]; omega)
  rw [hmx] at hu
  have hce : H[ad (enc 2 a)]? = some (vp_cell (xO X) (QA (nt (S.1 14 a)) (fun t => (if t < nt (S.1 17 a) then some (enc (3 + nt (S.1 16 a)) t) else none).map ad))) := Wd_at hW hd (ct_q hT ha) 0 _ rfl
  obtain ⟨cellV, g1, g2, g3⟩ := V_cell C hT hW ho6 hlk hci hdv
  obtain ⟨kA, comp, k1, k2, k3, -⟩ := (C.2.2.2.2.1.1.2 3 _ rfl).2
  obtain ⟨kE, hkE, -⟩ := Vm.findClass_spec k3
  obtain ⟨kC, hkC, -⟩ := Vm.findClass_spec g3
  have hoe : okE S (.inl (xO X, QA (nt (S.1 14 a)) (fun t' => if t' < max (nt (S.1 17 a)) (t + 1) then some (enc (3 + nt (S.1 16 a)) t') else none))) := by
    have h9 := hW.2.2.2.2.2.2.2.2.2.1 _ hd
    rw [ct_q hT ha] at h9
    intro t' y hy
    by_cases h8 : t' < nt (S.1 17 a)
    · have hy' : (if t' < max (nt (S.1 17 a)) (t + 1) then some (enc (3 + nt (S.1 16 a)) t') else none) = some y := hy
      rw [if_pos (by omega)] at hy'
      exact h9 t' y (by rw [← hy']; exact if_pos h8)
    · have hy' : (if t' < max (nt (S.1 17 a)) (t + 1) then some (enc (3 + nt (S.1 16 a)) t') else none) = some y := hy
      by_cases h7 : t' = t
      · rw [if_pos (by omega)] at hy'
        rw [← Option.some.inj hy', h7]; exact hdv
      · rw [if_neg (by omega)] at hy'; cases hy'
  refine W.aast C.1 C.2.1 hce (fun q h => by cases h) (fun h => by cases h) k1 k2 rfl hkE ⟨x0, by show _ < (arrV _ _ _).slots.size; rw [arrV_size]; rw [← x1] at x3; exact x3⟩ g1 (fun q h => by rw [h] at g2; cases g2) hkC (asg_obj C.2.2.2.2.1 hca _ _ k3 g3) rfl rfl hdg (V_ast (n := nt (S.1 14 a)) (stk := []) hd (ct_q hT ha) hu hoe h1.2.2.2 h2 hE hW hL z1 z2 hl ⟨_, hce, fun H' q => ?_⟩ k _ hce)
  show H'[ad (enc 2 a)]? = some (vp_cell (xO X) (QA (nt (S.1 14 a)) (fun t' => (if t' < max (nt (S.1 17 a)) (t + 1) then some (enc (3 + nt (S.1 16 a)) t') else none).map ad)))
  rw [q, vp_cell_q, vp_cell_q, arrV_store]
  congr 2
  funext j
  by_cases hj : j = x.toNatClampNeg
  · have hj' : j = t := hj.trans x1
    rw [if_pos (by omega)]
    simp only [updV, hj, if_true]
    rw [← hj, hj']
    rfl
  · have hj' : j ≠ t := fun e => hj (e.trans x1.symm)
    simp only [updV, hj, if_false]
    by_cases h8 : j < nt (S.1 17 a)
    · rw [if_pos h8, if_pos (by omega)]
    · rw [if_neg h8, if_neg (by omega)]
/-- all of a row's elements copied into a new one of the same list -/
theorem V_acopy (C : Cn X K p l R s m meth c cc own nL fr lo) (hT : xT X = tb) (ha : tbArr tb) {a b o ci N : Nat} {n : Int32} {Ce : String} {T : u_T} {fds : List Fd3} (hab : a ≠ b) (hn : ¬ n < 0 ∧ nt n = nt (S.1 14 a) ∧ nt n ≤ nt (S.1 14 b) ∧ nt (S.1 17 a) ≤ nt (S.1 14 a)) (hb0 : S.1 17 b = 0) (ho : nt (S.1 16 a) = o ∧ nt (S.1 16 b) = o) (ho6 : 3 + o < 61) (hlk : tb.lookup (3 + o) = some (ci, fds)) (hci : vwCl[ci]? = some (Ce, T, N)) (hca : (Ce, "java/lang/Object") ∈ K.1)
    (w1 : Cond.methodLink own index arraycopyName ∈ gW) (w2 : Cond.native arraycopyName ∈ gW) (w3 : Cond.static arraycopyName ∈ gW) (w4 : Cond.initialized "java/lang/System" ∈ gW) (hR : 1 ≤ fr ∧ (st.map fun v => v.category).sum + (nativeFrameWords "java/lang/System" "arraycopy" 5 + 11) ≤ lo) (hdg : decode cc pc = .ok (.invokestatic index, 3))
    (k : V X p l e R s m args below meth c nL Q S0 ad0 (su S 17 b (S.1 17 a)) (pc + 3) (lv) (st)) : V X p l e R s m args below meth c nL Q S0 ad0 (S) (pc) (lv) (.int n :: .int 0 :: .ref (enc 2 b) :: .int 0 :: .ref (enc 2 a) :: st) := by
  intro h1 h2 ad H locs ls hE hW hL z1 z2 hl
  obtain ⟨n0, n1, n2, n3⟩ := hn
  have hda := okv_dm h1.2.2.2.2.1 (enc_ne63 (by decide))
  have hdb := okv_dm h1.2.2.1 (enc_ne63 (by decide))
  have hu := upd_q (S := S) hT ha (a := b) (v := S.1 17 a) (by rw [hb0]; exact ⟨Nat.zero_le _, by omega⟩)
  have hca0 : H[ad (enc 2 a)]? = some (vp_cell (xO X) (QA (nt (S.1 14 a)) (fun t => (if t < nt (S.1 17 a) then some (enc (3 + nt (S.1 16 a)) t) else none).map ad))) := Wd_at hW hda (ct_q hT ha) 0 _ rfl
  have hcb0 : H[ad (enc 2 b)]? = some (vp_cell (xO X) (QA (nt (S.1 14 b)) (fun t => (if t < nt (S.1 17 b) then some (enc (3 + nt (S.1 16 b)) t) else none).map ad))) := Wd_at hW hdb (ct_q hT ha) 0 _ rfl
  have h9 := hW.2.2.2.2.2.2.2.2.2.1 _ hda
  rw [ct_q hT ha] at h9
  obtain ⟨-, -, -, -, -, -, cf, cl, cc1, cc2, ct9, ch, chs, -⟩ := And.intro C.1 C.2
  refine W_acopy (C := Ce) C.1 C.2.1 (C.2.2.1.trans hl.1.symm) C.2.2.2.1 (KK.w C.2.2.2.2.1 w1 args) (KK.w C.2.2.2.2.1 w2 args) (KK.w C.2.2.2.2.1 w3 args) (KK.w C.2.2.2.2.1 w4 args) C.2.2.2.2.1.1 3 rfl hca0 hcb0 n0 (by omega) n2 (fun i y hi hy => ?_) (asg_obj C.2.2.2.2.1 hca) (by rw [cf]; exact hR.1) (by rw [cl, cv_sum]; exact hR.2) hdg (fun H1 L hL1 e2 e1 e3 => ?_)
  · by_cases h8 : i < nt (S.1 17 a)
    · rw [if_pos h8] at hy
      have hy' : ad (enc (3 + nt (S.1 16 a)) i) = y := Option.some.inj hy
      rw [← hy', ho.1]
      refine V_cell C hT hW ho6 hlk hci ?_
      have := h9 i _ (if_pos h8)
      rw [ho.1] at this
      exact this
    · rw [if_neg h8] at hy; cases hy
  · have ss : slotSum H1 = slotSum H := slotSum_put e2 hcb0 e1 (by show (arrV _ _ _).slots.size = (arrV _ _ _).slots.size; rw [arrV_size, arrV_size]) e3
    have hx : ext S ad (su S 17 b (S.1 17 a)) ad := ext_dmS fun i hi => (hu.2.1 i).mpr hi
    have hoe : okE S (.inl (xO X, QA (nt (S.1 14 b)) (fun t => if t < nt (S.1 17 a) then some (enc (3 + nt (S.1 16 b)) t) else none))) := by
      intro t y hy
      refine h9 t y ?_
      rw [ho.1, ← ho.2]; exact hy
    have hW' : Wd X (su S 17 b (S.1 17 a)) ad H1 := by
      refine Wd_put hW hdb e2 ss e3 ?_ hoe hu
      show H1[ad (enc 2 b)]? = some (vp_cell (xO X) (QA (nt (S.1 14 b)) (fun t => (if t < nt (S.1 17 a) then some (enc (3 + nt (S.1 16 b)) t) else none).map ad)))
      rw [e1]
      congr 3
      funext j
      unfold va_cpy
      rw [hb0, ho.1, ho.2]
      by_cases h8 : j < nt n
      · rw [if_pos ⟨Nat.zero_le _, by omega⟩, Nat.sub_zero, Nat.zero_add]
      · rw [if_neg (fun q => h8 (by omega))]
        show (if j < nt 0 then some (enc (3 + o) j) else none : Option Nat).map ad = _
        rw [if_neg (show ¬ j < nt 0 from Nat.not_lt_zero _), if_neg (by omega)]
    have kk := k (ext_okL hx h1.2.2.2.2.2) (ext_okl hx h2) ad H1 (locs ++ L) ls (ext_tr hE hx) hW' (fun z hz => (List.mem_append.mp hz).elim (hL z) (fun h => by rw [hL1 z h]; exact (hW.2.2.2.2.2.2.2.2.1 _ hdb).1)) (by rw [e2]; exact z1) (by rw [ss]; exact z2) hl
    rw [e2, ss] at kk
    exact kk
end RL
