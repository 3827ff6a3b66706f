/-! the constructors: over the table in which references stand in columns -/
section TI
variable {X : Cx} {p : Program} {l : Launch} {e : Env} {R : Room} {s : State} {m : MethodId} {args : Array Value} {below : List Frame} {meth : Method} {c : Code} {S0 : Sg} {ad0 : Nat → Nat} {Qa : Nat → Int32 → Sg → Prop}
theorem pl_Jxc12de_init_da8c8 : (parseMethodDescriptor yJxc12de_init_da8c8.desc).map (fun d => d.parameters.length) = some 0 := by decide +kernel
theorem pl_Jxa1e45_init_da8c8 : (parseMethodDescriptor yJxa1e45_init_da8c8.desc).map (fun d => d.parameters.length) = some 0 := by decide +kernel
theorem pl_Jx4a65c_init_da8c8 : (parseMethodDescriptor yJx4a65c_init_da8c8.desc).map (fun d => d.parameters.length) = some 0 := by decide +kernel
theorem f0_Jx4a65c_0 : FI tb0 1 0 (0, 11, 0) 0 RJx4a65c TJx4a65c 3 tyJx4a65c := ⟨CF_Jx4a65c, ⟨_, rfl, rfl, by decide⟩, by decide, by decide, Or.inr (gm 82 (by decide +kernel) (by decide +kernel))⟩
theorem f0_Jx4a65c_1 : FI tb0 1 1 (2, 13, 2) 0 RJx4a65c TJx4a65c 3 tyJx4a65c := ⟨CF_Jx4a65c, ⟨_, rfl, rfl, by decide⟩, by decide, by decide, Or.inl rfl⟩
theorem ct_acI (hl : l.stackTraces = false) {i : Nat} {S : Sg} (h : Qa 0 0 S) : CT X k0 l yJxa1e45_init_da8c8 cJxa1e45_init_da8c8 1 none 1 12 [.ref (enc 1 i)] rvV S Qa :=
  CT_ofV (own := RJxa1e45) (by decide +kernel) (le8 rfl) rfl hl fun p e R s m args below meth c ad0 C hr hnm htab => by
    refine V_aload_n (pc := 0) C dJxa1e45_init_da8c8_0 rfl 0 rfl ?_
    refine V_objI (pc := 1) C (gm 75 (by decide +kernel) (by decide +kernel)) (gm 62 (by decide +kernel) (by decide +kernel)) (gm 63 (by decide +kernel) (by decide +kernel)) ⟨by decide, le8 rfl⟩ dJxa1e45_init_da8c8_1 ?_
    exact V_vret (pc := 4) C hr rfl h dJxa1e45_init_da8c8_4
theorem ct_alI (hT : xT X = tb0) (hl : l.stackTraces = false) {i : Nat} {S : Sg} (h : Qa 0 0 (su S 11 i 0)) : CT X k0 l yJxc12de_init_da8c8 cJxc12de_init_da8c8 1 none 2 32 [.ref (enc 1 i)] rvV S Qa :=
  CT_ofV (own := RJxc12de) (by decide +kernel) (le8 rfl) rfl hl fun p e R s m args below meth c ad0 C hr hnm htab => by
    refine V_aload_n (pc := 0) C dJxc12de_init_da8c8_0 rfl 0 rfl ?_
    refine V_callI (pc := 1) C (ct_acI (Qa := fun k v S' => (k = 0 → S' = S) ∧ (¬ k = 0 → Qa k 0 S')) hl ⟨fun _ => rfl, fun q => absurd rfl q⟩) (gm 72 (by decide +kernel) (by decide +kernel)) (gm 73 (by decide +kernel) (by decide +kernel)) (gm 74 (by decide +kernel) (by decide +kernel)) (gm 34 (by decide +kernel) (by decide +kernel)) rfl ⟨by decide, by decide, pl_Jxa1e45_init_da8c8⟩ ⟨by decide, by decide⟩ (rest := []) rfl (le8 rfl) dJxc12de_init_da8c8_1 (fun v S1 h9 => ?_) (fun k9 S9 hk h => VX_out C htab hk (h.2 (by omega)))
    obtain rfl := h9.1 rfl
    refine V_st (st' := []) rfl ?_
    refine V_aload_n (pc := 4) C dJxc12de_init_da8c8_4 rfl 0 rfl ?_
    refine V_iconst (pc := 5) C (v := 0) dJxc12de_init_da8c8_5 rfl ?_
    have hu := upd1_obj (X := X) (S := S1) (kd := 1) (i := i) (d := (0, 11, 0)) hT tb0_ok (fds := fdList) rfl (by decide) (k9 := 0) rfl (Or.inl rfl) (by decide) (by decide) 0 (LI_su (by unfold lc; decide))
    refine V_put (S' := su S1 11 i 0) (pc := 6) C CF_Jx4a65c.1 CF_Jx4a65c.2.1 tyJx4a65c CF_Jx4a65c.2.2.1 CF_Jx4a65c.2.2.2 0 (by decide) (gm 80 (by decide +kernel) (by decide +kernel)) (Or.inl rfl) (Or.inl rfl) (enc_ne63 (by decide)) (ct_obj hT (tb := tb0) (kd := 1) rfl (by decide)) (le8 rfl) (v := .int 0) trivial (fun ad => rfl) (fun ad => rfl) ?_ dJxc12de_init_da8c8_6 ?_
    · have e9 : dv (su S1 11 i 0) i (0, 11, 0) = .int 0 := by show Value.int ((su S1 11 i 0).1 11 i) = _; rw [su_at]
      rw [e9] at hu
      exact hu
    · exact V_vret (pc := 9) C hr rfl h dJxc12de_init_da8c8_9
theorem LI_nE {S : Sg} {i : Nat} (h12 : S.1 12 i = 0) (h : LI S) : LI (su S 13 i nE) := by
  refine ⟨fun k => by rw [su_ne (Or.inl (by decide))]; exact h.1 k, fun j => ?_⟩
  by_cases hj : j = i
  · left
    rw [hj, su_at, su_ne (Or.inl (by decide))]
    exact ⟨by decide, h12⟩
  · rw [su_ne (c' := 13) (Or.inr hj), su_ne (c' := 12) (Or.inl (by decide)), su_ne (c' := 10) (Or.inl (by decide)), su_ne (c' := 16) (Or.inl (by decide)), su_ne (c' := 17) (Or.inl (by decide)), su_ne (c' := 14) (Or.inl (by decide))]
    exact h.2 j
theorem ct_arI (hT : xT X = tb0) (hl : l.stackTraces = false) {i : Nat} {S : Sg} (h12 : S.1 12 i = 0) (h : Qa 0 0 (su (su S 11 i 0) 13 i nE)) : CT X k0 l yJx4a65c_init_da8c8 cJx4a65c_init_da8c8 1 none 3 52 [.ref (enc 1 i)] rvV S Qa :=
  CT_ofV (own := RJx4a65c) (by decide +kernel) (le8 rfl) rfl hl fun p e R s m args below meth c ad0 C hr hnm htab => by
    refine V_aload_n (pc := 0) C dJx4a65c_init_da8c8_0 rfl 0 rfl ?_
    refine V_callI (pc := 1) C (ct_alI (Qa := fun k v S' => (k = 0 → S' = su S 11 i 0) ∧ (¬ k = 0 → Qa k 0 S')) hT hl ⟨fun _ => rfl, fun q => absurd rfl q⟩) (gm 69 (by decide +kernel) (by decide +kernel)) (gm 70 (by decide +kernel) (by decide +kernel)) (gm 71 (by decide +kernel) (by decide +kernel)) (gm 35 (by decide +kernel) (by decide +kernel)) rfl ⟨by decide, by decide, pl_Jxc12de_init_da8c8⟩ ⟨by decide, by decide⟩ (rest := []) rfl (le8 rfl) dJx4a65c_init_da8c8_1 (fun v S1 h9 => ?_) (fun k9 S9 hk h => VX_out C htab hk (h.2 (by omega)))
    obtain rfl := h9.1 rfl
    refine V_st (st' := []) rfl ?_
    refine V_aload_n (pc := 4) C dJx4a65c_init_da8c8_4 rfl 0 rfl ?_
    refine V_empty (pc := 5) C (gm 76 (by decide +kernel) (by decide +kernel)) dJx4a65c_init_da8c8_5 ?_
    refine V_putD (pc := 8) C hT tb0_ok f0_Jx4a65c_1 (Or.inr rfl) ⟨by decide, by decide, by decide⟩ (gm 78 (by decide +kernel) (by decide +kernel)) (Or.inl rfl) (x := nE) (LI_nE ?_) (v := .ref 62) ?_ (Or.inl rfl) (fun ad => rfl) (fun ad => rfl) dJx4a65c_init_da8c8_8 ?_
    · rw [su_ne (Or.inl (by decide))]; exact h12
    · show rf ((su _ 13 i nE).1 13 i) 2 = _
      rw [su_at, rf_nE]
    · exact V_vret (pc := 11) C hr rfl h dJx4a65c_init_da8c8_11
end TI
