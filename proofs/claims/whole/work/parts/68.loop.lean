/-! the law's loop (mk68.py writes this part) -/
section LO
variable {X : Cx} {p : Program} {l : Launch} {e : Env} {R : Room} {s : State} {m : MethodId} {args : Array Value} {below : List Frame} {meth : Method} {c : Code} {Q : State → Prop} {S0 : Sg} {ad0 : Nat → Nat}
theorem law_case (hT : xT X = tb1) (hl : l.stackTraces = false) (C : Cn X k0 p l R s m meth c cL_law RL 7 15 584) {L : Nat} {xs : Nat → Int32} (hX : va_X (xB X) L xs s (xH X)) (hbl : xB X < (xH X).size) {x4 : Int32} (hv : ∀ j : Int32, 1 ≤ j → j ≤ 6 → vp_in (x4 + j) L) {n : Nat} (hn : n < 512) {S : Sg} (h : Rel n S) (kk : ∀ {T : Sg}, Rel (n + 1) T → V X p l e R s m args below meth c 7 Q S0 ad0 T 2369 [(0, Value.ref 63), (1, Value.ref (enc 0 0)), (2, Value.ref (enc 12 0)), (3, Value.ref (enc 14 0)), (4, Value.int x4)] []) {op : Int32} : V X p l e R s m args below meth c 7 Q S0 ad0 S 40 [(0, Value.ref 63), (1, Value.ref (enc 0 0)), (2, Value.ref (enc 12 0)), (3, Value.ref (enc 14 0)), (4, Value.int x4)] [Value.int op] := by
  by_cases q0 : op = 0
  · subst q0
    exact V_tableIn (pc := 40) (tgt := 176) (off := 136) C dL_law_40 (by decide) (by decide) rfl (by decide) (case_hall hT hl C hX hbl hv kk (ls_hall hn h (fun T t => t)))
  by_cases q1 : op = 1
  · subst q1
    exact V_tableIn (pc := 40) (tgt := 244) (off := 204) C dL_law_40 (by decide) (by decide) rfl (by decide) (case_lamp hT hl C hX hbl hv kk (ls_lamp hn h (fun T t => t)))
  by_cases q2 : op = 2
  · subst q2
    exact V_tableIn (pc := 40) (tgt := 340) (off := 300) C dL_law_40 (by decide) (by decide) rfl (by decide) (case_film hT hl C hX hbl hv kk (ls_film hn h (fun T t => t)))
  by_cases q3 : op = 3
  · subst q3
    exact V_tableIn (pc := 40) (tgt := 420) (off := 380) C dL_law_40 (by decide) (by decide) rfl (by decide) (case_terms hT hl C hX hbl hv kk (ls_terms hn h (fun T t => t)))
  by_cases q4 : op = 4
  · subst q4
    exact V_tableIn (pc := 40) (tgt := 518) (off := 478) C dL_law_40 (by decide) (by decide) rfl (by decide) (case_key hT hl C hX hbl hv kk (ls_key hn h (fun T t => t)))
  by_cases q5 : op = 5
  · subst q5
    exact V_tableIn (pc := 40) (tgt := 610) (off := 570) C dL_law_40 (by decide) (by decide) rfl (by decide) (case_spread hT hl C hX hbl hv kk (ls_spread hn h (fun T t => t)))
  by_cases q6 : op = 6
  · subst q6
    exact V_tableIn (pc := 40) (tgt := 666) (off := 626) C dL_law_40 (by decide) (by decide) rfl (by decide) (case_show hT hl C hX hbl hv kk (ls_show hn h (fun T t => t)))
  by_cases q7 : op = 7
  · subst q7
    exact V_tableIn (pc := 40) (tgt := 746) (off := 706) C dL_law_40 (by decide) (by decide) rfl (by decide) (case_cancel hT hl C hX hbl hv kk (ls_cancel hn h (fun T t => t)))
  by_cases q8 : op = 8
  · subst q8
    exact V_tableIn (pc := 40) (tgt := 802) (off := 762) C dL_law_40 (by decide) (by decide) rfl (by decide) (case_breaks hT hl C hX hbl hv kk (ls_breaks hn h (fun T t => t)))
  by_cases q9 : op = 9
  · subst q9
    exact V_tableIn (pc := 40) (tgt := 858) (off := 818) C dL_law_40 (by decide) (by decide) rfl (by decide) (case_pass hT hl C hX hbl hv kk (ls_pass hn h (fun T t => t)))
  by_cases q10 : op = 10
  · subst q10
    exact V_tableIn (pc := 40) (tgt := 914) (off := 874) C dL_law_40 (by decide) (by decide) rfl (by decide) (case_hold hT hl C hX hbl hv kk (ls_hold hn h (fun T t => t)))
  by_cases q11 : op = 11
  · subst q11
    exact V_tableIn (pc := 40) (tgt := 1006) (off := 966) C dL_law_40 (by decide) (by decide) rfl (by decide) (case_letGo hT hl C hX hbl hv kk (ls_letGo hn h (fun T t => t)))
  by_cases q12 : op = 12
  · subst q12
    exact V_tableIn (pc := 40) (tgt := 1062) (off := 1022) C dL_law_40 (by decide) (by decide) rfl (by decide) (case_buy hT hl C hX hbl hv kk (ls_buy hn h (fun T t => t)))
  by_cases q13 : op = 13
  · subst q13
    exact V_tableIn (pc := 40) (tgt := 1130) (off := 1090) C dL_law_40 (by decide) (by decide) rfl (by decide) (case_sell hT hl C hX hbl hv kk (ls_sell hn h (fun T t => t)))
  by_cases q14 : op = 14
  · subst q14
    exact V_tableIn (pc := 40) (tgt := 1222) (off := 1182) C dL_law_40 (by decide) (by decide) rfl (by decide) (case_group hT hl C hX hbl hv kk (ls_group hn h (fun T t => t)))
  by_cases q15 : op = 15
  · subst q15
    exact V_tableIn (pc := 40) (tgt := 1302) (off := 1262) C dL_law_40 (by decide) (by decide) rfl (by decide) (case_giveBack hT hl C hX hbl hv kk (ls_giveBack hn h (fun T t => t)))
  by_cases q16 : op = 16
  · subst q16
    exact V_tableIn (pc := 40) (tgt := 1358) (off := 1318) C dL_law_40 (by decide) (by decide) rfl (by decide) (case_join hT hl C hX hbl hv kk (ls_join (by split; exact Or.inl rfl; exact Or.inr rfl) hn h (fun T t => t)))
  by_cases q17 : op = 17
  · subst q17
    exact V_tableIn (pc := 40) (tgt := 1454) (off := 1414) C dL_law_40 (by decide) (by decide) rfl (by decide) (case_fits hT hl C hX hbl hv kk (ls_fits hn h (fun T t => t)))
  by_cases q18 : op = 18
  · subst q18
    exact V_tableIn (pc := 40) (tgt := 1534) (off := 1494) C dL_law_40 (by decide) (by decide) rfl (by decide) (case_first hT hl C hX hbl hv kk (ls_first hn h (fun T t => t)))
  by_cases q19 : op = 19
  · subst q19
    exact V_tableIn (pc := 40) (tgt := 1614) (off := 1574) C dL_law_40 (by decide) (by decide) rfl (by decide) (case_price hT hl C hX hbl hv kk (ls_price hn h (fun T t => t)))
  by_cases q20 : op = 20
  · subst q20
    exact V_tableIn (pc := 40) (tgt := 1682) (off := 1642) C dL_law_40 (by decide) (by decide) rfl (by decide) (case_seat hT hl C hX hbl hv kk (ls_seat hn h (fun T t => t)))
  by_cases q21 : op = 21
  · subst q21
    exact V_tableIn (pc := 40) (tgt := 1762) (off := 1722) C dL_law_40 (by decide) (by decide) rfl (by decide) (case_ofShow hT hl C hX hbl hv kk (ls_ofShow hn h (fun T t => t)))
  by_cases q22 : op = 22
  · subst q22
    exact V_tableIn (pc := 40) (tgt := 1830) (off := 1790) C dL_law_40 (by decide) (by decide) rfl (by decide) (case_ofTicket hT hl C hX hbl hv kk (ls_ofTicket hn h (fun T t => t)))
  by_cases q23 : op = 23
  · subst q23
    exact V_tableIn (pc := 40) (tgt := 1898) (off := 1858) C dL_law_40 (by decide) (by decide) rfl (by decide) (case_ofHall hT hl C hX hbl hv kk (ls_ofHall hn h (fun T t => t)))
  by_cases q24 : op = 24
  · subst q24
    exact V_tableIn (pc := 40) (tgt := 1966) (off := 1926) C dL_law_40 (by decide) (by decide) rfl (by decide) (case_takings hT hl C hX hbl hv kk (ls_takings hn h (fun T t => t)))
  by_cases q25 : op = 25
  · subst q25
    exact V_tableIn (pc := 40) (tgt := 2034) (off := 1994) C dL_law_40 (by decide) (by decide) rfl (by decide) (case_takingsAnew hT hl C hX hbl hv kk (ls_takingsAnew hn h (fun T t => t)))
  by_cases q26 : op = 26
  · subst q26
    exact V_tableIn (pc := 40) (tgt := 2102) (off := 2062) C dL_law_40 (by decide) (by decide) rfl (by decide) (case_share hT hl C hX hbl hv kk (ls_share hn h (fun T t => t)))
  by_cases q27 : op = 27
  · subst q27
    exact V_tableIn (pc := 40) (tgt := 2170) (off := 2130) C dL_law_40 (by decide) (by decide) rfl (by decide) (case_mustStay hT hl C hX hbl hv kk (ls_mustStay hn h (fun T t => t)))
  by_cases q28 : op = 28
  · subst q28
    exact V_tableIn (pc := 40) (tgt := 2245) (off := 2205) C dL_law_40 (by decide) (by decide) rfl (by decide) (case_audit hT hl C hX hbl hv kk (ls_audit hn h (fun T t => t)))
  by_cases q29 : op = 29
  · subst q29
    exact V_tableIn (pc := 40) (tgt := 2313) (off := 2273) C dL_law_40 (by decide) (by decide) rfl (by decide) (case_all hT hl C hX hbl hv kk (ls_all hn h (fun T t => t)))
  refine V_tableOut (pc := 40) (tgt := 2369) C dL_law_40 ?_ (by decide) ?_
  · by_cases z : op < 0
    · exact Or.inl (z_lt.mp z)
    · refine Or.inr ?_
      have : (29 : Int32) < op := by lia
      exact z_lt.mp this
  · obtain ⟨g, a1, a2, a3, a4⟩ := h
    exact kk ⟨g, a1, a2, a3, bd_up a4⟩
theorem law_loop (hT : xT X = tb1) (hl : l.stackTraces = false) (C : Cn X k0 p l R s m meth c cL_law RL 7 15 584) {L : Nat} {xs : Nat → Int32} (hL : L ≤ 3584) (hX : va_X (xB X) L xs s (xH X)) (hbl : xB X < (xH X).size) (fin : ∀ {T : Sg} {x4 : Int32}, V X p l e R s m args below meth c 7 Q S0 ad0 T 2375 [(0, Value.ref 63), (1, Value.ref (enc 0 0)), (2, Value.ref (enc 12 0)), (3, Value.ref (enc 14 0)), (4, Value.int x4)] []) : ∀ (d n : Nat) {x4 : Int32} {S : Sg}, x4 = nI (7 * n) → n + d = 513 → 7 * n ≤ L → Rel n S → V X p l e R s m args below meth c 7 Q S0 ad0 S 23 [(0, Value.ref 63), (1, Value.ref (enc 0 0)), (2, Value.ref (enc 12 0)), (3, Value.ref (enc 14 0)), (4, Value.int x4)] []
  | 0, n, x4, S, e4, e5, e6, h => by omega
  | d + 1, n, x4, S, e4, e5, e6, h => by
    have t4 : x4.toInt = 7 * n := by rw [e4, nI_toInt (by omega)]; push_cast; rfl
    have tL : (Int32.ofNat L).toInt = L := nI_toInt (n := L) (by omega)
    have b1 : 0 ≤ x4 := by rw [z_le, t4]; exact Int.mul_nonneg (by decide) (Int.natCast_nonneg n)
    have b2 : x4 ≤ 3584 := by rw [z_le, t4]; show (7 * (n : Int)) ≤ 3584; omega
    have b3 : 0 ≤ Int32.ofNat L := by rw [z_le, tL]; exact Int.natCast_nonneg L
    have b4 : Int32.ofNat L ≤ 3584 := by rw [z_le, tL]; show (L : Int) ≤ 3584; omega
    refine V_iload (pc := 23) C dL_law_23 4 rfl ?_
    refine V_aload_n (pc := 25) C dL_law_25 rfl 0 rfl ?_
    refine V_slen (pc := 26) C hX hbl dL_law_26 ?_
    refine V_bipush (pc := 27) C (v := 7) dL_law_27 rfl ?_
    refine V_isub (pc := 29) C dL_law_29 ?_
    refine V_icmp_gt (pc := 30) (tgt := 2375) C dL_law_30 (by decide) ⟨fun z => z, fun z => z⟩ (fun _ => fin) (fun z => ?_)
    have b5 : x4 + 7 ≤ Int32.ofNat L := by lia
    have b6 : 7 * n + 7 ≤ L := by
      have := z_le.mp b5
      rw [z_add (by rw [t4]; show _ ≤ 7 * (n : Int) + 7; omega) (by rw [t4]; show 7 * (n : Int) + 7 ≤ _; omega), t4, tL] at this
      have h7 : (7 : Int32).toInt = 7 := rfl
      rw [h7] at this
      omega
    have hv : ∀ j : Int32, 0 ≤ j → j ≤ 6 → vp_in (x4 + j) L := fun j j0 j1 => vp_of (by lia) (by show _ < Int32.ofNat L; lia) (by omega)
    refine V_aload_n (pc := 33) C dL_law_33 rfl 0 rfl ?_
    refine V_iload (pc := 34) C dL_law_34 4 rfl ?_
    refine V_sld (pc := 36) C hX hbl (by have := hv 0 (by decide) (by decide); rwa [show x4 + 0 = x4 by lia] at this) dL_law_36 ?_
    refine V_bipush (pc := 37) C (v := 31) dL_law_37 rfl ?_
    refine V_iand (pc := 39) C dL_law_39 ?_
    refine law_case hT hl C hX hbl (fun j j0 j1 => hv j (by lia) j1) (n := n) (by omega) h (fun {T} hr => ?_)
    refine V_iinc (pc := 2369) C (a := 4) (v := x4 + 7) dL_law_2369 rfl rfl (by decide) rfl ?_
    refine V_goto (pc := 2372) (tgt := 23) C dL_law_2372 (by decide) ?_
    refine V_sub [1, 2, 3, 4, 0] rfl ?_
    refine law_loop hT hl C hL hX hbl fin d (n + 1) ?_ (by omega) (by omega) hr
    apply Int32.toInt_inj.mp
    rw [nI_toInt (by omega), z_add (by rw [t4]; show _ ≤ 7 * (n : Int) + 7; omega) (by rw [t4]; show 7 * (n : Int) + 7 ≤ _; omega), t4]
    show 7 * (n : Int) + 7 = _
    omega
end LO
