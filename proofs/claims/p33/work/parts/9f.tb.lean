/-! from the constructors' table to the class's -/
section TB
variable {D : va_G} {cI cZ cL cO : ClassId} {H0 : Heap} {B E M : Nat}
abbrev XX (D : va_G) (cI cZ cL cO : ClassId) (H0 : Heap) (B E M : Nat) (tb : Tb) : Cx := (D, cI, cZ, cL, cO, tb, H0, B, E, M)
variable {K : KL} {p : Program} {l : Launch} {e : Env} {R : Room} {s : State} {m : MethodId} {args : Array Value} {below : List Frame} {meth : Method} {c : Code} {nL fr lo : Nat} {Q : State → Prop} {S0 S : Sg} {ad0 : Nat → Nat}
variable {cc : ByteArray} {own : String} {pc : Nat} {lv : List (Nat × Value)} {st : List Value}
theorem Wd_tb {ad : Nat → Nat} {H : Heap} (hct : ∀ id, dm S id → ct (XX D cI cZ cL cO H0 B E M tb0) S id = ct (XX D cI cZ cL cO H0 B E M tb1) S id) (h : Wd (XX D cI cZ cL cO H0 B E M tb0) S ad H) : Wd (XX D cI cZ cL cO H0 B E M tb1) S ad H := by
  obtain ⟨a1, a2, a3, a4, a5, a6, a7, a8, a9, a10, a11, a12, a13⟩ := h
  refine ⟨a1, a2, a3, a4, a5, a6, a7, a8, fun id hd => ?_, fun id hd => ?_, a11, a12, a13⟩
  · rw [← hct id hd]; exact a9 id hd
  · rw [← hct id hd]; exact a10 id hd
theorem V_tb (hct : ∀ id, dm S id → ct (XX D cI cZ cL cO H0 B E M tb0) S id = ct (XX D cI cZ cL cO H0 B E M tb1) S id) (k : V (XX D cI cZ cL cO H0 B E M tb1) p l e R s m args below meth c nL Q S0 ad0 S pc lv st) : V (XX D cI cZ cL cO H0 B E M tb0) p l e R s m args below meth c nL Q S0 ad0 S pc lv st :=
  fun h1 h2 ad H locs ls hE hW hL z1 z2 hl => k h1 h2 ad H locs ls hE (Wd_tb hct hW) hL z1 z2 hl
theorem Cn_tb (h : Cn (XX D cI cZ cL cO H0 B E M tb0) K p l R s m meth c cc own nL fr lo) : Cn (XX D cI cZ cL cO H0 B E M tb1) K p l R s m meth c cc own nL fr lo := h
end TB
