/-! the whole walk, from the law's entry -/
theorem whole_start {p : Program} {e : Env} {s : State} {m : MethodId} {below : List Frame} {meth : Method} {c : Code} (l : Launch) (hflags : l.flags = flags0) {b L : Nat} {xs : Nat → Int32} (hL : L ≤ 260) (C0 : lw_At p s m meth c b L xs) : W p l e room_1 s m #[Value.ref b] below meth c s.heap [] 0 0 (lw_Z below #[Value.ref b] s) (entryFrame m ([Value.ref b] : List Value).toArray 17) := by
  have hl : l.stackTraces = false := by
    unfold Launch.stackTraces
    rw [hflags]
    decide +kernel
  obtain ⟨D, cI, cO, E, M, hK⟩ := st_KK hL C0
  obtain ⟨hx, hb, hr, hml, hown, hts, hX, hbl, hlocks, hgv⟩ := C0
  have C : Cn (XX D cI cI cI cO s.heap b E M tb0) k0 p l room_1 s m meth c cL_law RL 17 16 708 := ⟨hx, hb, hml, hown, hK, hlocks, rfl, rfl, (Nat.add_sub_cancel_left (n := s.heap.size) (m := nB1)).symm, (Nat.add_sub_cancel_left (n := slotSum s.heap) (m := nB2)).symm, hl, fun q _ => rfl, Nat.le_refl _, Nat.le_add_right _ _, Nat.le_add_right _ _⟩
  have hW : Wd (XX D cI cI cI cO s.heap b E M tb0) Z0 (fun a => if a = 61 then M else if a = 62 then E else b) s.heap := ⟨fun q _ => rfl, Nat.le_refl _, Nat.le_refl _, Nat.le_refl _, Nat.zero_le _, Nat.zero_le _, rfl, rfl, fun id hd => absurd hd Z0_nd, fun id hd => absurd hd Z0_nd, fun i j hd => absurd hd Z0_nd, Z0_LI, rfl⟩
  have V0 := law_begin (e := e) (args := #[Value.ref b]) (below := below) (Q := lw_Z below #[Value.ref b] s) (ad0 := fun a => if a = 61 then M else if a = 62 then E else b) hl C (fun {T} hR => k_L_law_66 (Qa := fun _ x _ => x = 1) rfl hl (Cn_tb C) hr (fun {x S lv} hx1 => by cases hx1; exact law_fin (Cn_tb C) hr rfl) (law_all (fun _ => rfl) (fun S22 e22 => RA_AE hR e22)))
  have kk := V0 trivial (fun q hq => by rw [List.mem_singleton.mp hq]; exact Or.inl ⟨by decide, by decide⟩) (fun a => if a = 61 then M else if a = 62 then E else b) s.heap [] _ ext_rf hW (fun z hz => absurd hz List.not_mem_nil) (Nat.le_refl _) (Nat.le_refl _) (lv_entry ([.ref b]) (n := 17) (le8 rfl))
  rw [Nat.sub_self, Nat.sub_self] at kk
  rw [lg_entry_eq]
  exact kk
