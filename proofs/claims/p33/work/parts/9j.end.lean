/-! the law's end -/
section EN
variable {X : Cx} {p : Program} {l : Launch} {e : Env} {s : State} {m : MethodId} {below : List Frame} {meth : Method} {c : Code} {S0 : Sg} {ad0 : Nat → Nat}
theorem law_fin {b : Nat} (C : Cn X k0 p l room_1 s m meth c cL_law RL 17 16 708) (hr : meth.sig.returnType = ret) (hs : s.heap = xH X) {T : Sg} {lv : List (Nat × Value)} : V X p l e room_1 s m #[.ref b] below meth c 17 (lw_Z below #[.ref b] s) S0 ad0 T 539 lv [.int 1] := by
  intro h1 h2 ad H locs ls hE hW hL z1 z2 hl
  refine va_forget (fun q hq => by rw [hs]; exact hL q hq) ?_
  obtain ⟨-, -, a3, a4, a5, a6, -⟩ := hW
  have q1 : H.size - s.heap.size ≤ 600074 := by rw [hs]; unfold nB1 at a5; omega
  have q2 : slotSum H - slotSum s.heap ≤ 7301550 := by rw [hs]; unfold nB2 at a6; omega
  exact W.widen q1 q2 (lw_ret C.1 C.2.1 hr C.2.2.2.2.2.1 dL_law_539)
end EN
