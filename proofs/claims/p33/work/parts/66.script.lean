/-! the script (id 63), the law's own rows, its end -/
section SC
variable {X : Cx} {K : KL} {p : Program} {l : Launch} {e : Env} {R : Room} {s : State} {m : MethodId} {args : Array Value} {below : List Frame} {meth : Method} {c : Code} {nL fr lo : Nat} {Q : State → Prop} {S0 S : Sg} {ad0 : Nat → Nat}
variable {cc : ByteArray} {own : String} {pc : Nat} {lv : List (Nat × Value)} {st : List Value}
theorem V_sld (C : Cn X K p l R s m meth c cc own nL fr lo) {L : Nat} {xs : Nat → Int32} (hX : va_X (xB X) L xs s (xH X)) (hbl : xB X < (xH X).size) {i : Int32} (hin : vp_in i L) (hdg : decode cc pc = .ok (.iaload, 1)) (k : V X p l e R s m args below meth c nL Q S0 ad0 (S) (pc + 1) (lv) (.int (xs (nt i)) :: st)) : V X p l e R s m args below meth c nL Q S0 ad0 (S) (pc) (lv) (.int i :: .ref 63 :: st) := by
  intro h1 h2 ad H locs ls hE hW hL z1 z2 hl
  have kk := k ⟨trivial, h1.2.2⟩ h2 ad H locs ls hE hW hL z1 z2 hl
  have hS : va_S (fun q => (xH X).size ≤ q) (xH X) H locs := ⟨hW.2.1, fun q hq _ => hW.1 q hq, hL⟩
  have e63 : ad 63 = xB X := hW.2.2.2.2.2.2.2.1
  show W p l e R s m args below meth c H locs (H.size - s.heap.size) (slotSum H - slotSum s.heap) Q (F0 m pc ls (.int i :: .ref (ad 63) :: st.map (cv ad)))
  rw [e63]
  exact va_sld (A := fun q => (xH X).size ≤ q) C.1 C.2.1 hX hbl (Nat.not_le.mpr hbl) hS hin hdg kk
theorem V_slen (C : Cn X K p l R s m meth c cc own nL fr lo) {L : Nat} {xs : Nat → Int32} (hX : va_X (xB X) L xs s (xH X)) (hbl : xB X < (xH X).size) (hdg : decode cc pc = .ok (.arraylength, 1)) (k : V X p l e R s m args below meth c nL Q S0 ad0 (S) (pc + 1) (lv) (.int (Int32.ofNat L) :: st)) : V X p l e R s m args below meth c nL Q S0 ad0 (S) (pc) (lv) (.ref 63 :: st) := by
  intro h1 h2 ad H locs ls hE hW hL z1 z2 hl
  have kk := k ⟨trivial, h1.2⟩ h2 ad H locs ls hE hW hL z1 z2 hl
  have hS : va_S (fun q => (xH X).size ≤ q) (xH X) H locs := ⟨hW.2.1, fun q hq _ => hW.1 q hq, hL⟩
  have e63 : ad 63 = xB X := hW.2.2.2.2.2.2.2.1
  show W p l e R s m args below meth c H locs (H.size - s.heap.size) (slotSum H - slotSum s.heap) Q (F0 m pc ls (.ref (ad 63) :: st.map (cv ad)))
  rw [e63]
  exact va_slen (A := fun q => (xH X).size ≤ q) C.1 C.2.1 hX hbl (Nat.not_le.mpr hbl) hS hdg kk
theorem cmp_self {x : Int64} : lg_cmp x x = 0 := by
  unfold lg_cmp
  simp
end SC
