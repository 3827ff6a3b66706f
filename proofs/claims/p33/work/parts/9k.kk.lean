/-! what the tables' words and the Statement's premises give at the law's start -/
section ST
variable {p : Program} {s : State} {m : MethodId} {meth : Method} {c : Code} {b L : Nat} {xs : Nat → Int32} {args : Array Value}
theorem st_cls (h : ∀ w ∈ gW, w.before #[] s = true) : ∃ D : va_G, ∀ (k : Nat) (q : vw_C), vwCl[k]? = some q → u_Kn s q.1 q.2.1 q.2.2 (D.1 k) (D.2 k) := by
  have one : ∀ (C : String) (T : u_T) (N n : Nat), (∀ w ∈ u_ws C T N, w ∈ gW) → Cond.instantiable C n ∈ gW → ∃ q : ClassId × (Nat → Nat), u_Kn s C T N q.1 q.2 := fun C T N n h1 h2 => by
    obtain ⟨c, i, h3⟩ := u_known h h1 (h _ h2)
    exact ⟨(c, i), h3⟩
  have hall : ∀ k : Nat, ∃ q : ClassId × (Nat → Nat), ∀ r : vw_C, vwCl[k]? = some r → u_Kn s r.1 r.2.1 r.2.2 q.1 q.2 := fun k => by
    match k with
    | 0 =>
      obtain ⟨q, hq⟩ := one _ _ _ 3 CF_Jx4a65c.2.1 (gm 65 (by decide +kernel) (by decide +kernel))
      exact ⟨q, fun r hr => by cases hr; exact hq⟩
    | 1 =>
      obtain ⟨q, hq⟩ := one _ _ _ 9 CF_X0.2.1 (gm 353 (by decide +kernel) (by decide +kernel))
      exact ⟨q, fun r hr => by cases hr; exact hq⟩
    | 2 =>
      obtain ⟨q, hq⟩ := one _ _ _ 5 CF_X1.2.1 (gm 221 (by decide +kernel) (by decide +kernel))
      exact ⟨q, fun r hr => by cases hr; exact hq⟩
    | 3 =>
      obtain ⟨q, hq⟩ := one _ _ _ 4 CF_X2.2.1 (gm 648 (by decide +kernel) (by decide +kernel))
      exact ⟨q, fun r hr => by cases hr; exact hq⟩
    | 4 =>
      obtain ⟨q, hq⟩ := one _ _ _ 4 CF_X3.2.1 (gm 408 (by decide +kernel) (by decide +kernel))
      exact ⟨q, fun r hr => by cases hr; exact hq⟩
    | 5 =>
      obtain ⟨q, hq⟩ := one _ _ _ 3 CF_X4.2.1 (gm 478 (by decide +kernel) (by decide +kernel))
      exact ⟨q, fun r hr => by cases hr; exact hq⟩
    | 6 =>
      obtain ⟨q, hq⟩ := one _ _ _ 8 CF_X5.2.1 (gm 472 (by decide +kernel) (by decide +kernel))
      exact ⟨q, fun r hr => by cases hr; exact hq⟩
    | 7 =>
      obtain ⟨q, hq⟩ := one _ _ _ 5 CF_X6.2.1 (gm 601 (by decide +kernel) (by decide +kernel))
      exact ⟨q, fun r hr => by cases hr; exact hq⟩
    | 8 =>
      obtain ⟨q, hq⟩ := one _ _ _ 8 CF_X7.2.1 (gm 57 (by decide +kernel) (by decide +kernel))
      exact ⟨q, fun r hr => by cases hr; exact hq⟩
    | k + 9 =>
      obtain ⟨q, -⟩ := one _ _ _ 8 CF_X7.2.1 (gm 57 (by decide +kernel) (by decide +kernel))
      refine ⟨q, fun r hr => ?_⟩
      rw [List.getElem?_eq_none (show vwCl.length ≤ k + 9 from Nat.le_add_left 9 k)] at hr
      cases hr
  obtain ⟨f, hf⟩ := Classical.axiomOfChoice hall
  exact ⟨(fun k => (f k).1, fun k => (f k).2), fun k q hq => hf k q hq⟩
theorem st_arr {ty : FieldType} (h : (Cond.arrayClass ty).before args s = true) (hv : ∀ cA, s.vm.findClass ("[" ++ ty.toString) = some cA → va_RA s cA ty) : ∃ cA : ClassId, ArrOfT s cA ty ∧ va_RA s cA ty := by
  obtain ⟨cA, kA, comp, h1, h2, h3⟩ := Cond.arrayClass_spec (args := args) (first := s) (o := none) (s := s) (idx := []) h
  exact ⟨cA, fun n z => ⟨fun k h => (by cases h), kA, h2, comp, h3⟩, hv cA h1⟩
theorem st_obj (h : (Cond.arrayOver (.object "java/lang/Object")).before args s = true) : ∃ cA : ClassId, ArrOfT s cA (.object "java/lang/Object") ∧ va_RA s cA (.object "java/lang/Object") := by
  obtain ⟨comp, cA, k, h1, -, h3, h4, h5⟩ := Cond.arrayOver_spec (args := args) (first := s) (o := none) (s := s) (idx := []) h
  exact ⟨cA, fun n z => ⟨fun k h => (by cases h), k, h3, comp, h4⟩, ⟨k, comp, h3, h4, h1, h5⟩⟩
theorem st_emp {C n d : String} (hl : (Cond.laysStatic C n d).before args s = true) (hini : (Cond.initialized C).before args s = true) (h1 : (Cond.eq (.length (.static C n d)) (.int 0)).before args s = true) (h2 : (Cond.arrayOf (.static C n d) (.object "java/lang/Object")).before args s = true) : ∃ E : Nat, va_Z C n d (.ref E) (fun q => s.heap.size ≤ q) s s.heap ∧ ∃ cell : Cell, s.heap[E]? = some cell ∧ cell.slots.size.toInt32 = 0 ∧ s.isArrayOf cell (.object "java/lang/Object") ∧ cell.vm ≠ .unknown := by
  obtain ⟨E, cell, ht, hat, hv⟩ := Term.length_spec (va_eqt h1)
  obtain ⟨hcell, hkn, -, -⟩ := State.arrayAt?_spec hat
  obtain ⟨hof, -⟩ := Cond.arrayOf_spec h2 ht hcell
  exact ⟨E, va_Zref hl hini ht (fun a ha => Nat.not_le.mpr ha), cell, hcell, (Value.int.inj hv).symm, hof, hkn⟩
theorem st_z1 : ∀ q ∈ k0.1, Cond.castable q.1 q.2 ∈ lw_tbl := by decide +kernel
theorem st_z2 : ∀ q ∈ k0.2.1, Cond.not (.castable q.1 q.2) ∈ flatC (Jvm.Cond.and given_1 narrow_1) := by decide +kernel
theorem st_z3 : ∀ y ∈ k0.2.2.1, Cond.declares y ∈ lw_tbl := by decide +kernel
theorem st_z4 : ∀ q ∈ k0.2.2.2, Cond.stringRef q.1 q.2.1 q.2.2 ∈ lw_tbl := by decide +kernel
theorem st_z5 : ∀ q ∈ k0.2.2.2, Cond.exactly (.string q.1 q.2.1) "java/lang/String" ∈ flatC (Jvm.Cond.and given_1 narrow_1) := by decide +kernel
theorem st_KK (hL : L ≤ 260) (C0 : lw_At p s m meth c b L xs) : ∃ (D : va_G) (cI cO : ClassId) (E M : Nat), KK (XX D cI cI cI cO s.heap b E M tb0) k0 s := by
  obtain ⟨-, -, -, -, -, hts, hX, hbl, -, hgv⟩ := C0
  have hs := flat_of_before _ hgv
  have hg : ∀ w ∈ gW, w.before #[] s = true := fun w hw => word_at (State.WarmedH.refl s) (gW_good hw) (hts w (List.mem_filter.mp hw).1)
  have hA : ∀ a : Nat, a < s.heap.size → ¬ (fun q => s.heap.size ≤ q) a := fun a ha => Nat.not_le.mpr ha
  obtain ⟨D, hD⟩ := st_cls hg
  obtain ⟨cI, i1, i2⟩ := st_arr (ty := .int) (hts (.arrayClass .int) (List.mem_of_getElem? (i := 494) (by decide +kernel))) (fun _ h => h)
  obtain ⟨cO, o1, o2⟩ := st_obj (hts (.arrayOver (.object "java/lang/Object")) (List.mem_of_getElem? (i := 298) (by decide +kernel)))
  obtain ⟨E, e1, e2⟩ := st_emp (C := "java/util/ArrayList") (n := "DEFAULTCAPACITY_EMPTY_ELEMENTDATA") (d := "[Ljava/lang/Object;") (hts _ (List.mem_of_getElem? (i := 77) (by decide +kernel))) (hts _ (List.mem_of_getElem? (i := 36) (by decide +kernel))) (hs _ (by decide +kernel)) (hs _ (by decide +kernel))
  obtain ⟨M, m1⟩ := va_Mi.of (hs (.isRef (.mirror "[Ljava/lang/Object;")) (by decide +kernel))
  refine ⟨D, cI, cO, E, M, ⟨hD, fun k q hk => ?_⟩, hg, fun q hq => va_Nw.of rfl (hts _ (st_z1 q hq)), fun q hq => va_Nc.of (hs _ (st_z2 q hq)), fun y hy => va_Nw.of rfl (hts _ (st_z3 y hy)), fun q hq => ?_, ?_, ?_, e1, e2, va_AO.of (hts (.arrayOver (.object "java/lang/Object")) (List.mem_of_getElem? (i := 298) (by decide +kernel))), va_Nw.of rfl (hts (.methodLinkNest RX5 11 yX4_init "Platterhouse") (List.mem_of_getElem? (i := 479) (by decide +kernel))), m1, va_Dc.of (hts (.declares ⟨"java/lang/Object", "getClass", "()Ljava/lang/Class;"⟩) (List.mem_of_getElem? (i := 923) (by decide +kernel))), L, xs, hX, hbl, hL⟩
  · match k, hk with
    | 0, hk => cases hk; exact ⟨i1, i2⟩
    | 1, hk => cases hk; exact ⟨i1, i2⟩
    | 2, hk => cases hk; exact ⟨i1, i2⟩
    | 3, hk => cases hk; exact ⟨o1, o2⟩
    | k + 4, hk =>
      exfalso
      rw [List.getElem?_eq_none (show List.length [(cI, FieldType.int), (cI, .int), (cI, .int), (cO, .object "java/lang/Object")] ≤ k + 4 from Nat.le_add_left 4 k)] at hk
      cases hk
  · obtain ⟨a, c9, cell, k, h1, -⟩ := Cond.exactly_spec (args := #[Value.ref b]) (first := s) (o := none) (s := s) (idx := []) (t := .string q.1 q.2.1) (cls := "java/lang/String") (hs _ (st_z5 q hq))
    exact ⟨a, vk_R.of (hts _ (st_z4 q hq)) h1⟩
  · exact vx_Zqof (hts _ (List.mem_of_getElem? (i := 159) (by decide +kernel))) (hts (.initialized "java/lang/Throwable") (List.mem_of_getElem? (i := 37) (by decide +kernel))) (hs _ (by decide +kernel)) hA
  · exact vx_Zqof (hts _ (List.mem_of_getElem? (i := 161) (by decide +kernel))) (hts (.initialized "java/lang/Throwable") (List.mem_of_getElem? (i := 37) (by decide +kernel))) (hs _ (by decide +kernel)) hA
theorem Z0_nd {id : Nat} : ¬ dm Z0 id := by
  unfold dm
  intro h
  split at h
  · exact absurd (show (0 : Int32) = 1 from h) (by decide)
  · exact absurd (show id / 64 < nt 0 from h) (by rw [show nt 0 = 0 by decide]; omega)
theorem Z0_LI : LI Z0 := by
  refine ⟨fun k => ⟨?_, ?_⟩, fun j => Or.inl ⟨?_, rfl⟩⟩
  · show ¬ (0 : Int32) < 0
    decide
  · show nt 0 ≤ 0
    decide
  · show (-1 : Int32) < 0
    decide
end ST
