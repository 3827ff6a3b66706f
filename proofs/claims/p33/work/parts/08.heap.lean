/-! rows over the heap: fields, arrays, the script, a method's ends -/
theorem enc_ne {k i a : Nat} (hk : k < 64) (h : a % 64 ≠ k) : enc k i ≠ a := fun e => h (by rw [← e]; exact enc_mod hk)
theorem slotSum_put {H H1 : Heap} {a : Nat} {c1 c2 : Cell} (z : H1.size = H.size) (h : H[a]? = some c1) (h1 : H1[a]? = some c2) (hs : c2.slots.size = c1.slots.size) (o : ∀ q : Nat, q ≠ a → H1[q]? = H[q]?) : slotSum H1 = slotSum H := by
  rw [slotSum_sum, slotSum_sum]
  congr 1
  apply List.ext_getElem?
  intro i
  rw [List.getElem?_map, List.getElem?_map, Array.getElem?_toList, Array.getElem?_toList]
  by_cases hi : i = a
  · subst hi
    rw [h, h1]
    simp [hs]
  · rw [o i hi]
def upd1 (X : Cx) (S S' : Sg) (id : Nat) (e : va_E) : Prop := S'.2 = S.2 ∧ (∀ i, dm S' i ↔ dm S i) ∧ (∀ i, ct X S' i = if i = id then e else ct X S i) ∧ (LI S → LI S')
theorem Wd_put {X : Cx} {S S' : Sg} {ad : Nat → Nat} {H H1 : Heap} {id : Nat} {e : va_E} (hW : Wd X S ad H) (hd : dm S id) (z : H1.size = H.size) (ss : slotSum H1 = slotSum H) (o : ∀ q : Nat, q ≠ ad id → H1[q]? = H[q]?) (he : va_at (xD X) vwCl (ad id, cE ad e) H1) (hoe : okE S e) (hS : upd1 X S S' id e) : Wd X S' ad H1 := by
  obtain ⟨a1, a2, a3, a4, a5, a6, a7, a8, a9, a11, a10, a12, a13⟩ := hW
  obtain ⟨u1, u2, u3, u4⟩ := hS
  have hb := (a9 id hd).1
  refine ⟨fun q hq => ?_, by rw [z]; exact a2, by rw [z, u1]; exact a3, by rw [ss, u1]; exact a4, by rw [u1]; exact a5, by rw [u1]; exact a6, a7, a8, fun i hi => ?_, fun i hi => ?_, fun i j hi hj => a10 i j ((u2 i).mp hi) ((u2 j).mp hj), u4 a12, a13⟩
  · rw [o q (by omega)]; exact a1 q hq
  · have hi' := (u2 i).mp hi
    refine ⟨(a9 i hi').1, ?_⟩
    rw [u3 i]
    by_cases h : i = id
    · subst h; rw [if_pos rfl]; exact he
    · rw [if_neg h]
      exact (a9 i hi').2.kept (o _ fun q => h (a10 i id hi' hd q))
  · rw [u3 i]
    refine okE_mono (fun a => (u2 a).mpr) ?_
    by_cases h : i = id
    · rw [if_pos h]; exact hoe
    · rw [if_neg h]; exact a11 i ((u2 i).mp hi)
theorem Wd_at {X : Cx} {S : Sg} {ad : Nat → Nat} {H : Heap} (hW : Wd X S ad H) {id : Nat} (hd : dm S id) {e : va_E} (he : ct X S id = e) : va_P (xD X) vwCl [(ad id, cE ad e)] H := by
  intro k q hk
  match k, hk with
  | 0, hk => cases hk; rw [← he]; exact (hW.2.2.2.2.2.2.2.2.1 id hd).2
  | k + 1, hk => simp at hk
section RH
variable {X : Cx} {K : KL} {p : Program} {l : Launch} {e : Env} {R : Room} {s : State} {m : MethodId} {args : Array Value} {below : List Frame} {meth : Method} {c : Code} {nL fr lo : Nat} {Q : State → Prop} {S0 S : Sg} {ad0 : Nat → Nat}
variable {cc : ByteArray} {own : String} {pc : Nat} {lv : List (Nat × Value)} {st : List Value}
theorem okv_dm {id : Nat} (h : okv S (.ref id)) (hid : id % 64 < 61) : dm S id := h.elim (fun e => by have e2 : 61 ≤ id ∧ id < 64 := e; omega) (fun q => q)
theorem ff_ref (C : Cn X K p l R s m meth c cc own nL fr lo) {T : u_T} {k9 : Nat} {ref : String} (href : (T k9).1 = ref ∨ Cond.sameField ref (T k9).1 (T k9).2.1 (T k9).2.2.1 ∈ gW) {x : ClassId × Class × Nat × Field} (h : s.fieldFound? (T k9).1 (T k9).2.1 (T k9).2.2.1 = some x) : s.fieldFound? ref (T k9).2.1 (T k9).2.2.1 = some x := by
  rcases href with h1 | h1
  · rw [← h1]; exact h
  · exact u_same (KK.w C.2.2.2.2.1 h1 #[]) x h
theorem V_get (C : Cn X K p l R s m meth c cc own nL fr lo) {Cc ref : String} {T : u_T} {N ci index : Nat} (hc : vwCl[ci]? = some (Cc, T, N)) (hin : ∀ w ∈ u_ws Cc T N, w ∈ gW) (k9 : Nat) (hk : k9 < N) (hlink : Cond.fieldLink own index ref (T k9).2.1 (T k9).2.2.1 ∈ gW) (href : (T k9).1 = ref ∨ Cond.sameField ref (T k9).1 (T k9).2.1 (T k9).2.2.1 ∈ gW) {id : Nat} (hid : id % 64 < 61) {fs : List Value} {v : Value} (hct : ct X S id = .inr (ci, fs)) (hv : fs[k9]? = some v) (hok : okv S v) (hdg : decode cc pc = .ok (.getfield index, 3))
    (k : V X p l e R s m args below meth c nL Q S0 ad0 (S) (pc + 3) (lv) (v :: st)) : V X p l e R s m args below meth c nL Q S0 ad0 (S) (pc) (lv) (.ref id :: st) := by
  intro h1 h2 ad H locs ls hE hW hL z1 z2 hl
  have hd := okv_dm h1.1 hid
  exact va_get (Ts := gW) C.1 C.2.1 (fun w hw => KK.w C.2.2.2.2.1 hw args) hin C.2.2.2.1 C.2.2.2.2.1.1 (Wd_at hW hd hct) 0 rfl hc k9 hk (KK.w C.2.2.2.2.1 hlink args) (fun x9 h9 => ff_ref C href h9) (by rw [List.getElem?_map, hv]; rfl) hdg (k ⟨hok, h1.2⟩ h2 ad H locs ls hE hW hL z1 z2 hl)
theorem okL_of_iff {S S' : Sg} (h : ∀ i, dm S' i ↔ dm S i) {ad : Nat → Nat} : ext S ad S' ad := ext_dmS fun i hi => (h i).mpr hi
theorem V_put (C : Cn X K p l R s m meth c cc own nL fr lo) {Cc ref : String} {T : u_T} {N ci index : Nat} (hc : vwCl[ci]? = some (Cc, T, N)) (hin : ∀ w ∈ u_ws Cc T N, w ∈ gW) (ty0 : Nat → FieldType) (hty : ∀ k, k < N → parseFieldDescriptor (T k).2.2.1 = some (ty0 k)) (hnm : ∀ a, a < N → ∀ b, b < N → a ≠ b → (T a).2.1 ≠ (T b).2.1) (k9 : Nat) (hk : k9 < N) (hlink : Cond.fieldLink own index ref (T k9).2.1 (T k9).2.2.1 ∈ gW) (href : (T k9).1 = ref ∨ Cond.sameField ref (T k9).1 (T k9).2.1 (T k9).2.2.1 ∈ gW) (hfin : (T k9).2.2.2 = false ∨ ((T k9).2.2.2 = true ∧ meth.name = "<init>" ∧ (T k9).1 = own))
    {id : Nat} (hid : id % 64 < 61) {fs : List Value} {v : Value} (hct : ct X S id = .inr (ci, fs)) (hl9 : k9 < fs.length) (hovw : okw S v) (hn : ∀ ad : Nat → Nat, narrow (ty0 k9) (cv ad v) = cv ad v) (hfit : ∀ ad : Nat → Nat, fits (ty0 k9) (cv ad v) = true) {S' : Sg} (hS' : upd1 X S S' id (.inr (ci, fs.set k9 v))) (hdg : decode cc pc = .ok (.putfield index, 3))
    (k : V X p l e R s m args below meth c nL Q S0 ad0 (S') (pc + 3) (lv) (st)) : V X p l e R s m args below meth c nL Q S0 ad0 (S) (pc) (lv) (v :: .ref id :: st) := by
  intro h1 h2 ad H locs ls hE hW hL z1 z2 hl
  have hd := okv_dm h1.2.1 hid
  have hts : ∀ w ∈ gW, w.before args s = true := fun w hw => KK.w C.2.2.2.2.1 hw args
  have hK := C.2.2.2.2.1.1
  have hap := va_apart (own := own) hts hin ty0 hty hnm hK hc
  obtain ⟨r, g1, cell, q1, q2, q3, q4⟩ := Wd_at hW hd hct 0 _ rfl
  have hr : r = (Cc, T, N) := Option.some.inj (g1.symm.trans hc)
  subst hr
  obtain ⟨hS, hfc, kC, hkC, hkind⟩ := hK.1 ci _ hc
  obtain ⟨cf, kf, fi, f, hi, hsl⟩ := hS k9 hk
  have hst := (u_facts hfc hkC (u_lays hts hin hk) hi).1
  have hi' : s.fieldFound? ref (T k9).2.1 (T k9).2.2.1 = some (cf, kf, fi, f) := ff_ref C href hi
  have fin : ∀ H' : Heap, H'[ad id]? = some (cell.setSlot f.slot (cv ad v)) → H'.size = H.size → (∀ q, q ≠ ad id → H'[q]? = H[q]?) → W p l e R s m args below meth c H' (locs ++ [⟨ad id, f.slot⟩]) (H.size - s.heap.size) (slotSum H - slotSum s.heap) Q (F0 m (pc + 3) ls (st.map (cv ad))) := by
    intro H' e1 e2 e3
    have ss : slotSum H' = slotSum H := slotSum_put e2 q1 e1 (by simp [Cell.setSlot]) e3
    have hx : ext S ad S' ad := ext_dmS fun i hi => (hS'.2.1 i).mpr hi
    have hoe : okE S (.inr (ci, fs.set k9 v)) := by
      have h0 := hW.2.2.2.2.2.2.2.2.2.1 id hd
      rw [hct] at h0
      intro w hw
      rcases List.mem_or_eq_of_mem_set hw with h | h
      · exact h0 w h
      · rw [h]; exact hovw
    rw [hsl] at e1
    have hW' : Wd X S' ad H' := Wd_put hW hd e2 ss e3 (e := .inr (ci, fs.set k9 v)) ⟨_, hc, t_OB.to (V := updV (vp_V (fs.map (cv ad))) k9 (cv ad v)) ⟨_, e1, q2, q3, t_set q4 hap hk (cv ad v)⟩ (fun j _ => by rw [vp_updV_set (by rw [List.length_map]; exact hl9) (cv ad v) j, List.map_set])⟩ hoe hS'
    have kk := k (ext_okL hx h1.2.2) (ext_okl hx h2) ad H' (locs ++ [⟨ad id, f.slot⟩]) ls (ext_tr hE hx) hW' (fun z hz => (List.mem_append.mp hz).elim (hL z) (fun h => by rw [List.mem_singleton.mp h]; exact (hW.2.2.2.2.2.2.2.2.1 id hd).1)) (by rw [e2]; exact z1) (by rw [ss]; exact z2) hl
    rw [e2, ss] at kk
    exact kk
  rcases hfin with hfin | ⟨hfin, hin2, hdecl⟩
  · have hlay := hts _ (hin _ (u_in_lay hk))
    unfold u_lay at hlay
    rw [if_neg (by rw [hfin]; decide)] at hlay
    have h6 := u_store hfc hkC hkind hlay hi (hty k9 hk) (hn ad) (hfit ad)
    exact W.putK C.1 C.2.1 (f := f) ⟨C.2.2.2.1, KK.w C.2.2.2.2.1 hlink args, ⟨_, _, _, hi'⟩, hst⟩ (by rw [q2]; exact h6) q1 q3 (by rw [hsl]; exact k2_hasslot (q4 k9 hk)) rfl rfl hdg fin
  · have hlay := hts _ (hin _ (u_in_lay hk))
    unfold u_lay at hlay
    rw [if_pos hfin] at hlay
    have hcf : m.cls = cf := by
      obtain ⟨_, _, c', _, _, _, -, -, hf', -, -, -, hown2, -⟩ := Cond.laysFinal_spec hlay
      have e1 : c' = cf := by have := hi.symm.trans hf'; simp at this; exact this.1.symm
      rw [hdecl] at hown2
      rw [← e1]; exact Option.some.inj (C.2.2.2.1.symm.trans hown2)
    have h6 := u_fits hfc hkC hkind (Or.inr hlay) hi (hty k9 hk) (hn ad) (hfit ad)
    exact W.putFinK C.1 C.2.1 C.2.2.2.1 (KK.w C.2.2.2.2.1 hlink args) hi' hst hcf hin2 (by rw [q2]; exact h6) q1 q3 (by rw [hsl]; exact k2_hasslot (q4 k9 hk)) rfl rfl hdg fin
theorem V_iald (C : Cn X K p l R s m meth c cc own nL fr lo) {id n : Nat} {f : Nat → Int32} {i : Int32} (hid : id % 64 < 61) (hct : ct X S id = .inl (xI X, n, .inl f)) (hin : vp_in i n) (hdg : decode cc pc = .ok (.iaload, 1)) (k : V X p l e R s m args below meth c nL Q S0 ad0 (S) (pc + 1) (lv) (.int (f (nt i)) :: st)) : V X p l e R s m args below meth c nL Q S0 ad0 (S) (pc) (lv) (.int i :: .ref id :: st) := by
  intro h1 h2 ad H locs ls hE hW hL z1 z2 hl
  exact va_iald C.1 C.2.1 C.2.2.2.2.1.1 (Wd_at hW (okv_dm h1.2.1 hid) hct) 0 0 rfl rfl hin hdg (k ⟨trivial, h1.2.2⟩ h2 ad H locs ls hE hW hL z1 z2 hl)
theorem V_alen (C : Cn X K p l R s m meth c cc own nL fr lo) {id n : Nat} {cA : ClassId} {f : Nat → Int32} (hid : id % 64 < 61) (hct : ct X S id = .inl (cA, n, .inl f)) (hcA : cA = xI X ∨ False) (hdg : decode cc pc = .ok (.arraylength, 1)) (k : V X p l e R s m args below meth c nL Q S0 ad0 (S) (pc + 1) (lv) (.int (Int32.ofNat n) :: st)) : V X p l e R s m args below meth c nL Q S0 ad0 (S) (pc) (lv) (.ref id :: st) := by
  intro h1 h2 ad H locs ls hE hW hL z1 z2 hl
  have kk := k ⟨trivial, h1.2⟩ h2 ad H locs ls hE hW hL z1 z2 hl
  rcases hcA with rfl | hf
  · exact va_alen C.1 C.2.1 C.2.2.2.2.1.1 (Wd_at hW (okv_dm h1.1 hid) hct) 0 0 rfl rfl rfl hdg kk
  · exact hf.elim
/-- a store into a row, from the raw row -/
theorem V_ast {id n j9 len : Nat} {e0 e1 : vp_A} {cA : ClassId} {w : Value} {stk : List Value} (hd : dm S id) (hct : ct X S id = .inl (cA, e0)) {S' : Sg} (hS' : upd1 X S S' id (.inl (cA, e1))) (hoe : okE S (.inl (cA, e1))) (hoks : okL S st) {ad : Nat → Nat} {H : Heap} {locs : List Loc} {ls : Array Slot}
    (hlv : okl S lv) (hE : ext S0 ad0 S ad) (hW : Wd X S ad H) (hL : ∀ z ∈ locs, (xH X).size ≤ z.base) (z1 : s.heap.size ≤ H.size) (z2 : slotSum s.heap ≤ slotSum H) (hl : lv_has ls nL (lvc ad lv))
    (hcell : ∃ c0 : Cell, H[ad id]? = some c0 ∧ (∀ H', H'[ad id]? = some (c0.setSlot j9 w) → va_at (xD X) vwCl (ad id, cE ad (.inl (cA, e1))) H'))
    (k : V X p l e R s m args below meth c nL Q S0 ad0 (S') (pc + len) (lv) (st)) : ∀ c0 : Cell, H[ad id]? = some c0 → ∀ H' : Heap, H'[ad id]? = some (c0.setSlot j9 w) → H'.size = H.size → (∀ q, q ≠ ad id → H'[q]? = H[q]?) → W p l e R s m args below meth c H' (locs ++ [⟨ad id, j9⟩]) (H.size - s.heap.size) (slotSum H - slotSum s.heap) Q (F0 m (pc + len) ls (st.map (cv ad))) := by
  intro c1 hc1 H' e1 e2 e3
  obtain ⟨c0, q1, q2⟩ := hcell
  cases hc1.symm.trans q1
  have ss : slotSum H' = slotSum H := slotSum_put e2 q1 e1 (by simp [Cell.setSlot]) e3
  have hx : ext S ad S' ad := ext_dmS fun i hi => (hS'.2.1 i).mpr hi
  have hW' : Wd X S' ad H' := Wd_put hW hd e2 ss e3 (q2 H' e1) hoe hS'
  have kk := k (ext_okL hx hoks) (ext_okl hx hlv) ad H' (locs ++ [⟨ad id, j9⟩]) ls (ext_tr hE hx) hW' (fun z hz => (List.mem_append.mp hz).elim (hL z) (fun h => by rw [List.mem_singleton.mp h]; exact (hW.2.2.2.2.2.2.2.2.1 id hd).1)) (by rw [e2]; exact z1) (by rw [ss]; exact z2) hl
  rw [e2, ss] at kk
  exact kk
theorem V_iast (C : Cn X K p l R s m meth c cc own nL fr lo) {id n : Nat} {f : Nat → Int32} {i x : Int32} (hid : id % 64 < 61) (hct : ct X S id = .inl (xI X, n, .inl f)) (hin : vp_in i n) {S' : Sg} (hS' : upd1 X S S' id (.inl (xI X, n, .inl (upd f (nt i) x)))) (hdg : decode cc pc = .ok (.iastore, 1)) (k : V X p l e R s m args below meth c nL Q S0 ad0 (S') (pc + 1) (lv) (st)) : V X p l e R s m args below meth c nL Q S0 ad0 (S) (pc) (lv) (.int x :: .int i :: .ref id :: st) := by
  intro h1 h2 ad H locs ls hE hW hL z1 z2 hl
  have hd := okv_dm h1.2.2.1 hid
  have hce : H[ad id]? = some (vp_cell (xI X) (n, .inl f)) := Wd_at hW hd hct 0 _ rfl
  refine W.iast C.1 C.2.1 hce ((C.2.2.2.2.1.1.2 0 _ rfl).1 n (fun j => .int (f j))) (fun q => by cases q) (by show ¬ (i < 0 ∨ (arrV _ _ _).slots.size ≤ _); rw [arrV_size]; exact hin) rfl rfl hdg (V_ast (n := n) (stk := []) hd hct hS' trivial h1.2.2.2 h2 hE hW hL z1 z2 hl ⟨_, hce, fun H' q => ?_⟩ k _ hce)
  show H'[ad id]? = some (vp_cell (xI X) (n, .inl (upd f (nt i) x)))
  rw [q, vp_cell_i, vp_cell_i, arrV_store]
  congr 2
  funext j
  by_cases hj : j = i.toNatClampNeg
  · simp [updV, upd, nt, hj]
  · simp [updV, upd, nt, hj]
end RH
