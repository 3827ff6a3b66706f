/-! rows by columns: a field's read and write, a row's read and write, a new object
-/
def CF (ci : Nat) (Cc : String) (T : u_T) (N : Nat) (ty0 : Nat → FieldType) : Prop := vwCl[ci]? = some (Cc, T, N) ∧ (∀ w ∈ u_ws Cc T N, w ∈ gW) ∧ (∀ k, k < N → parseFieldDescriptor (T k).2.2.1 = some (ty0 k)) ∧ ∀ a, a < N → ∀ b, b < N → a ≠ b → (T a).2.1 ≠ (T b).2.1
/-- field k9 of kind kd: tag, column, the kind that it names -/
def FI (tb : Tb) (kd k9 : Nat) (d : Fd3) (ci : Nat) (Cc : String) (T : u_T) (N : Nat) (ty0 : Nat → FieldType) : Prop :=
  CF ci Cc T N ty0 ∧ (∃ fds, tb.lookup kd = some (ci, fds) ∧ fds[k9]? = some d ∧ k9 < fds.length) ∧ kd < 61 ∧ k9 < N ∧ ((T k9).1 = Cc ∨ Cond.sameField Cc (T k9).1 (T k9).2.1 (T k9).2.2.1 ∈ gW)
theorem enc_ne63 {kd i : Nat} (h : kd < 61) : enc kd i % 64 < 61 := by rw [enc_mod (by omega)]; exact h
section RB
variable {X : Cx} {K : KL} {p : Program} {l : Launch} {e : Env} {R : Room} {s : State} {m : MethodId} {args : Array Value} {below : List Frame} {meth : Method} {c : Code} {nL fr lo : Nat} {Q : State → Prop} {S0 S : Sg} {ad0 : Nat → Nat}
variable {cc : ByteArray} {own : String} {pc : Nat} {lv : List (Nat × Value)} {st : List Value} {rv : Int32 → Option Value} {Qa : Nat → Int32 → Sg → Prop}
variable {tb : Tb} {kd k9 ci N index i c9 k' : Nat} {Cc : String} {T : u_T} {ty0 : Nat → FieldType}
theorem V_okE (C : Cn X K p l R s m meth c cc own nL fr lo) {id : Nat} (hid : id % 64 < 61) (k : dm S id → okE S (ct X S id) → V X p l e R s m args below meth c nL Q S0 ad0 (S) (pc) (lv) (.ref id :: st)) : V X p l e R s m args below meth c nL Q S0 ad0 (S) (pc) (lv) (.ref id :: st) := by
  intro h1 h2 ad H locs ls hE hW hL z1 z2 hl
  have hd := okv_dm h1.1 hid
  exact k hd (hW.2.2.2.2.2.2.2.2.2.1 id hd) h1 h2 ad H locs ls hE hW hL z1 z2 hl
theorem V_getD (C : Cn X K p l R s m meth c cc own nL fr lo) (hT : xT X = tb) {d : Fd3} (F : FI tb kd k9 d ci Cc T N ty0) (hlink : Cond.fieldLink own index Cc (T k9).2.1 (T k9).2.2.1 ∈ gW) (hdg : decode cc pc = .ok (.getfield index, 3)) (hok : okv S (dv S i d)) (k : V X p l e R s m args below meth c nL Q S0 ad0 (S) (pc + 3) (lv) (dv S i d :: st)) : V X p l e R s m args below meth c nL Q S0 ad0 (S) (pc) (lv) (.ref (enc kd i) :: st) := by
  obtain ⟨F1, ⟨fds, h1, h2, h3⟩, h4, h5, h6⟩ := F
  exact V_get C F1.1 F1.2.1 k9 h5 hlink h6 (enc_ne63 h4) (ct_obj hT h1 (by omega)) (by show (fds.map (dv S i))[k9]? = some (dv S i d); rw [List.getElem?_map, h2]; rfl) hok hdg k
theorem V_getI (C : Cn X K p l R s m meth c cc own nL fr lo) (hT : xT X = tb) (F : FI tb kd k9 (0, c9, 0) ci Cc T N ty0) (hlink : Cond.fieldLink own index Cc (T k9).2.1 (T k9).2.2.1 ∈ gW) (hdg : decode cc pc = .ok (.getfield index, 3)) (k : V X p l e R s m args below meth c nL Q S0 ad0 (S) (pc + 3) (lv) (.int (S.1 c9 i) :: st)) : V X p l e R s m args below meth c nL Q S0 ad0 (S) (pc) (lv) (.ref (enc kd i) :: st) := V_getD C hT F hlink hdg trivial k
theorem V_getF (C : Cn X K p l R s m meth c cc own nL fr lo) (hT : xT X = tb) {a : Nat} (F : FI tb kd k9 (1, a, 0) ci Cc T N ty0) (hlink : Cond.fieldLink own index Cc (T k9).2.1 (T k9).2.2.1 ∈ gW) (hdg : decode cc pc = .ok (.getfield index, 3)) (k : V X p l e R s m args below meth c nL Q S0 ad0 (S) (pc + 3) (lv) (.ref a :: st)) : V X p l e R s m args below meth c nL Q S0 ad0 (S) (pc) (lv) (.ref (enc kd i) :: st) := by
  refine V_okE C (enc_ne63 F.2.2.1) fun hd ho => ?_
  obtain ⟨F1, ⟨fds, h1, h2, h3⟩, h4, h5, h6⟩ := F
  rw [ct_obj hT h1 (by omega)] at ho
  have h9 : okw S (dv S i (1, a, 0)) := ho _ (List.mem_map.mpr ⟨_, List.mem_of_getElem? h2, rfl⟩)
  refine V_getD C hT ⟨F1, ⟨fds, h1, h2, h3⟩, h4, h5, h6⟩ hlink hdg ?_ k
  exact h9.elim (fun e => Or.inl (by rw [e]; decide)) Or.inr
theorem V_getR (C : Cn X K p l R s m meth c cc own nL fr lo) (hT : xT X = tb) (F : FI tb kd k9 (2, c9, k') ci Cc T N ty0) (hk' : k' < 61 ∧ k' ≠ 13) (hlink : Cond.fieldLink own index Cc (T k9).2.1 (T k9).2.2.1 ∈ gW) (hdg : decode cc pc = .ok (.getfield index, 3)) {A : Prop} (h : ¬ S.1 c9 i < 0 ∧ A) (k : A → V X p l e R s m args below meth c nL Q S0 ad0 (S) (pc + 3) (lv) (.ref (enc k' (nt (S.1 c9 i))) :: st)) : V X p l e R s m args below meth c nL Q S0 ad0 (S) (pc) (lv) (.ref (enc kd i) :: st) := by
  have e : dv S i (2, c9, k') = .ref (enc k' (nt (S.1 c9 i))) := by
    show rf (S.1 c9 i) k' = _
    rw [rf_pos h.1]
  refine V_okE C (enc_ne63 F.2.2.1) fun hd ho => ?_
  refine V_getD C hT F hlink hdg ?_ (by rw [e]; exact k h.2)
  obtain ⟨F1, ⟨fds, h1, h2, h3⟩, h4, h5, h6⟩ := F
  rw [ct_obj hT h1 (by omega)] at ho
  have h9 : okw S (dv S i (2, c9, k')) := ho _ (List.mem_map.mpr ⟨_, List.mem_of_getElem? h2, rfl⟩)
  rw [e] at h9 ⊢
  exact h9.elim (fun e => Or.inl (by rw [e]; decide)) Or.inr
theorem V_putD (C : Cn X K p l R s m meth c cc own nL fr lo) (hT : xT X = tb) (hok : tbOK tb = true) {d : Fd3} (F : FI tb kd k9 d ci Cc T N ty0) (hd : d.1 = 0 ∨ d.1 = 2) (hoc : oc d.2.1 = true ∧ d.2.1 ≠ 10 ∧ d.2.1 ≠ 15) (hlink : Cond.fieldLink own index Cc (T k9).2.1 (T k9).2.2.1 ∈ gW) (hfin : (T k9).2.2.2 = false ∨ ((T k9).2.2.2 = true ∧ meth.name = "<init>" ∧ (T k9).1 = own))
    {x : Int32} {v : Value} (hli : LI S → LI (su S d.2.1 i x)) (hv : dv (su S d.2.1 i x) i d = v) (hovw : okw S v) (hn : ∀ ad : Nat → Nat, narrow (ty0 k9) (cv ad v) = cv ad v) (hfit : ∀ ad : Nat → Nat, fits (ty0 k9) (cv ad v) = true) (hdg : decode cc pc = .ok (.putfield index, 3)) (k : V X p l e R s m args below meth c nL Q S0 ad0 (su S d.2.1 i x) (pc + 3) (lv) (st)) : V X p l e R s m args below meth c nL Q S0 ad0 (S) (pc) (lv) (v :: .ref (enc kd i) :: st) := by
  obtain ⟨F1, ⟨fds, h1, h2, h3⟩, h4, h5, h6⟩ := F
  have hu := upd1_obj (S := S) hT hok h1 (by omega) h2 hd hoc.1 hoc.2 x hli (i := i)
  rw [hv] at hu
  exact V_put C F1.1 F1.2.1 ty0 F1.2.2.1 F1.2.2.2 k9 h5 hlink h6 hfin (enc_ne63 h4) (ct_obj hT h1 (by omega)) (by show k9 < (fds.map (dv S i)).length; rw [List.length_map]; exact h3) hovw hn hfit hu hdg k
theorem V_putI (C : Cn X K p l R s m meth c cc own nL fr lo) (hT : xT X = tb) (hok : tbOK tb = true) (F : FI tb kd k9 (0, c9, 0) ci Cc T N ty0) (hoc : oc c9 = true ∧ c9 ≠ 15 ∧ lc c9) (hlink : Cond.fieldLink own index Cc (T k9).2.1 (T k9).2.2.1 ∈ gW) (hfin : (T k9).2.2.2 = false ∨ ((T k9).2.2.2 = true ∧ meth.name = "<init>" ∧ (T k9).1 = own))
    {x : Int32} (hty : ty0 k9 = .int ∨ (ty0 k9 = .boolean ∧ (x = 0 ∨ x = 1))) (hdg : decode cc pc = .ok (.putfield index, 3)) (k : V X p l e R s m args below meth c nL Q S0 ad0 (su S c9 i x) (pc + 3) (lv) (st)) : V X p l e R s m args below meth c nL Q S0 ad0 (S) (pc) (lv) (.int x :: .ref (enc kd i) :: st) := by
  refine V_putD C hT hok F (Or.inl rfl) ⟨hoc.1, hoc.2.2.1, hoc.2.1⟩ hlink hfin (LI_su hoc.2.2) (v := .int x) (by show Value.int ((su S c9 i x).1 c9 i) = _; rw [su_at]) trivial (fun ad => ?_) (fun ad => ?_) hdg k
  · rcases hty with h | ⟨h, rfl | rfl⟩ <;> rw [h] <;> rfl
  · rcases hty with h | ⟨h, rfl | rfl⟩ <;> rw [h] <;> rfl
theorem nt_lt (x : Int32) : nt x < 2147483648 := by
  show x.toInt.toNat < _
  have h2 := Int32.toInt_lt x
  omega
theorem nt_nI {n : Nat} (h : n < 2147483648) : nt (nI n) = n := nI_clamp (by omega)
theorem V_putR (C : Cn X K p l R s m meth c cc own nL fr lo) (hT : xT X = tb) (hok : tbOK tb = true) (F : FI tb kd k9 (2, c9, k') ci Cc T N ty0) (hk' : k' < 61 ∧ k' ≠ 13) (hoc : oc c9 = true ∧ c9 ≠ 15 ∧ lc c9) (hlink : Cond.fieldLink own index Cc (T k9).2.1 (T k9).2.2.1 ∈ gW) (hfin : (T k9).2.2.2 = false ∨ ((T k9).2.2.2 = true ∧ meth.name = "<init>" ∧ (T k9).1 = own))
    {x : Nat} (hty : (∃ n, ty0 k9 = .object n) ∨ ∃ t, ty0 k9 = .array t) (hdg : decode cc pc = .ok (.putfield index, 3)) (k : V X p l e R s m args below meth c nL Q S0 ad0 (su S c9 i (nI x)) (pc + 3) (lv) (st)) : V X p l e R s m args below meth c nL Q S0 ad0 (S) (pc) (lv) (.ref (enc k' x) :: .ref (enc kd i) :: st) := by
  intro h1
  have hdm : dm S (enc k' x) := okv_dm h1.1 (enc_ne63 hk'.1)
  have hx : x < 2147483648 := by
    have h9 := hdm
    unfold dm at h9
    rw [enc_mod (by omega), enc_div (by omega), if_neg hk'.2] at h9
    exact Nat.lt_trans h9 (nt_lt _)
  refine V_putD C hT hok F (Or.inr rfl) ⟨hoc.1, hoc.2.2.1, hoc.2.1⟩ hlink hfin (LI_su hoc.2.2) (v := .ref (enc k' x)) ?_ (Or.inr hdm) (fun ad => ?_) (fun ad => ?_) hdg k h1
  · show rf ((su S c9 i (nI x)).1 c9 i) k' = _
    rw [su_at, rf_pos (nI_pos (by omega)), nt_nI hx]
  · rcases hty with ⟨n, h⟩ | ⟨t, h⟩ <;> rw [h] <;> rfl
  · rcases hty with ⟨n, h⟩ | ⟨t, h⟩ <;> rw [h] <;> rfl
theorem obj_su {c9 j : Nat} {x : Int32} (hno : ∀ a ∈ tbCols tb, a.1 ≠ c9) {q : Nat × List Fd3} (h : tb.lookup kd = some q) : q.2.map (dv (su S c9 j x) i) = q.2.map (dv S i) := by
  obtain ⟨ci', fds⟩ := q
  refine List.map_congr_left fun d hd => dv_su ?_
  obtain ⟨k, hk⟩ := List.getElem?_of_mem hd
  by_cases h1 : d.1 = 1
  · exact Or.inl h1
  · exact Or.inr (Or.inl (hno _ (tbCols_mem h hk h1)))
/-- an array's column changes -/
theorem upd1_ar (hT : xT X = tb) {c9 j : Nat} {x : Int32} (hno : ∀ a ∈ tbCols tb, a.1 ≠ c9) (hc : c9 ≠ 10 ∧ c9 ≠ 15) (hli : LI S → LI (su S c9 j x)) {kd : Nat} (hlk : tb.lookup kd = none) (hkd : kd < 64) {e9 : va_E} (he : ar X (su S c9 j x) kd i = e9) (ho : ∀ kd' i', kd' ≠ kd ∨ i' ≠ i → ar X (su S c9 j x) kd' i' = ar X S kd' i') : upd1 X S (su S c9 j x) (enc kd i) e9 := by
  refine ⟨rfl, dm_su hc, fun id => ?_, hli⟩
  have hm : id % 64 < 64 := Nat.mod_lt _ (by decide)
  rw [enc_self (id := id) rfl]
  cases h : tb.lookup (id % 64) with
  | some q =>
    rw [ct_obj hT h hm, ct_obj hT h hm, obj_su hno h, if_neg]
    intro e
    have := congrArg (· % 64) e
    simp only [enc_mod hkd, enc_mod hm] at this
    rw [this, hlk] at h
    cases h
  | none =>
    rw [ct_arr hT h hm, ct_arr hT h hm]
    by_cases e : id % 64 = kd ∧ id / 64 = i
    · rw [e.1, e.2, if_pos rfl, he]
    · rw [if_neg, ho _ _ (by by_cases q : id % 64 = kd; exact Or.inr (fun q2 => e ⟨q, q2⟩); exact Or.inl q)]
      intro e9
      refine e ⟨?_, ?_⟩
      · have := congrArg (· % 64) e9
        simpa [enc_mod hkd, enc_mod hm] using this
      · have := congrArg (· / 64) e9
        simpa [enc_div hkd, enc_div hm] using this
theorem su_fun {c9 j : Nat} {x : Int32} : (fun q => (su S c9 j x).1 c9 q) = upd (fun q => S.1 c9 q) j x := by
  funext q
  by_cases h : q = j
  · subst h; simp [su, upd]
  · simp [su, upd, h]
theorem ar_ne {c9 j : Nat} {x : Int32} {kd i : Nat} (h : c9 ≠ 58 ∧ c9 ≠ 95 ∧ c9 ≠ 14 ∧ c9 ≠ 16 ∧ c9 ≠ 17) (h10 : kd = 10 → c9 ≠ 1000 + 2 * i) (h11 : kd = 11 → c9 ≠ 1001 + 2 * i) (h13 : kd = 13 → c9 ≠ mCol i) : ar X (su S c9 j x) kd i = ar X S kd i := by
  obtain ⟨a1, a2, a4, a3, a5⟩ := h
  unfold ar
  split
  · rename_i hk
    rw [su_ne (Or.inl (Ne.symm a1))]
    have e1 : (fun j' => (su S c9 j x).1 (1000 + 2 * i) j') = fun j' => S.1 (1000 + 2 * i) j' := funext fun q => su_ne (Or.inl (Ne.symm (h10 hk)))
    rw [e1]
  · split
    · rename_i hk
      have e1 : (fun j' => (su S c9 j x).1 (1001 + 2 * i) j') = fun j' => S.1 (1001 + 2 * i) j' := funext fun q => su_ne (Or.inl (Ne.symm (h11 hk)))
      rw [e1]
    · split
      · rename_i hk
        have e1 : (fun j' => (su S c9 j x).1 (mCol i) j') = fun j' => S.1 (mCol i) j' := funext fun q => su_ne (Or.inl (Ne.symm (h13 hk)))
        rw [e1]
      · split
        · have e1 : (su S c9 j x).1 95 i = S.1 95 i := su_ne (Or.inl (Ne.symm a2))
          rw [e1]
        · split
          · rw [su_ne (Or.inl (Ne.symm a4)), su_ne (Or.inl (Ne.symm a3)), su_ne (Or.inl (Ne.symm a5))]
          · rfl
/-- what the tables' columns are not -/
def tbArr (tb : Tb) : Prop := (∀ a ∈ tbCols tb, oc a.1 = true) ∧ tb.lookup 10 = none ∧ tb.lookup 11 = none ∧ tb.lookup 13 = none ∧ tb.lookup 14 = none ∧ tb.lookup 2 = none
theorem tb1_arr : tbArr tb1 := by unfold tbArr; decide +kernel
theorem tb0_arr : tbArr tb0 := by unfold tbArr; decide +kernel
theorem tbArr_no (h : tbArr tb) {c9 : Nat} (hc : oc c9 = false) : ∀ a ∈ tbCols tb, a.1 ≠ c9 := fun a ha e => by
  have h9 := h.1 a ha
  rw [e, hc] at h9
  cases h9
theorem oc_big {c9 : Nat} (h : 1000 ≤ c9) : oc c9 = false := by
  unfold oc
  rw [decide_eq_false (show ¬ c9 < 1000 by omega), Bool.and_false]
theorem ct_mI (hT : xT X = tb) (ha : tbArr tb) (hz : mZ i = false) : ct X S (enc 13 i) = .inl (xI X, mLen i, .inl (fun q => S.1 (mCol i) q)) := by
  rw [ct_arr hT ha.2.2.2.1 (by decide)]
  show Sum.inl (if mZ i then _ else _, _, _) = _
  rw [hz]; rfl
theorem ct_mZ (hT : xT X = tb) (ha : tbArr tb) (hz : mZ i = true) : ct X S (enc 13 i) = .inl (xZ X, mLen i, .inl (fun q => S.1 (mCol i) q)) := by
  rw [ct_arr hT ha.2.2.2.1 (by decide)]
  show Sum.inl (if mZ i then _ else _, _, _) = _
  rw [hz]; rfl
theorem upd_m (hT : xT X = tb) (ha : tbArr tb) (hi : i < 43) {j : Nat} {x : Int32} {cA : ClassId} (hz : (if mZ i then xZ X else xI X) = cA) : upd1 X S (su S (mCol i) j x) (enc 13 i) (.inl (cA, mLen i, .inl (upd (fun q => S.1 (mCol i) q) j x))) := by
  have hm : mCol i = 100 + i := if_pos (by omega)
  have hoc : oc (mCol i) = false := by
    rw [hm]; unfold oc
    rw [decide_eq_false (show ¬ (100 + i < 99) by omega), decide_eq_false (show ¬ (200 ≤ 100 + i) by omega)]
    simp
  refine upd1_ar hT (tbArr_no ha hoc) (by omega) (LI_su (by unfold lc; omega)) ha.2.2.2.1 (by decide) ?_ (fun kd' i' h => ar_ne (by omega) (by omega) (by omega) (fun hk => ?_))
  · subst hz
    show Sum.inl (_, _, Sum.inl (fun q => (su S (mCol i) j x).1 (mCol i) q)) = _
    rw [su_fun]
  · rcases h with h | h
    · exact absurd hk h
    · rw [hm]
      unfold mCol
      split <;> omega
theorem V_mld (C : Cn X K p l R s m meth c cc own nL fr lo) (hT : xT X = tb) (ha : tbArr tb) {n c9 : Nat} {x : Int32} (hz : mZ i = false) (hn : mLen i = n) (hc : mCol i = c9) {A : Prop} (h : vp_in x n ∧ A) (hdg : decode cc pc = .ok (.iaload, 1)) (k : A → V X p l e R s m args below meth c nL Q S0 ad0 (S) (pc + 1) (lv) (.int (S.1 c9 (nt x)) :: st)) : V X p l e R s m args below meth c nL Q S0 ad0 (S) (pc) (lv) (.int x :: .ref (enc 13 i) :: st) := by
  subst hn hc
  exact V_iald C (enc_ne63 (by decide)) (ct_mI hT ha hz) h.1 hdg (k h.2)
theorem V_mst (C : Cn X K p l R s m meth c cc own nL fr lo) (hT : xT X = tb) (ha : tbArr tb) {n c9 : Nat} {x v : Int32} (hi : i < 43) (hz : mZ i = false) (hn : mLen i = n) (hc : mCol i = c9) {A : Prop} (h : vp_in x n ∧ A) (hdg : decode cc pc = .ok (.iastore, 1)) (k : A → V X p l e R s m args below meth c nL Q S0 ad0 (su S c9 (nt x) v) (pc + 1) (lv) (st)) : V X p l e R s m args below meth c nL Q S0 ad0 (S) (pc) (lv) (.int v :: .int x :: .ref (enc 13 i) :: st) := by
  subst hn hc
  exact V_iast C (enc_ne63 (by decide)) (ct_mI hT ha hz) h.1 (upd_m hT ha hi (by rw [hz]; rfl)) hdg (k h.2)
theorem ct_pl (hT : xT X = tb) (ha : tbArr tb) : ct X S (enc 10 i) = .inl (xI X, nt (S.1 58 i), .inl (fun q => S.1 (1000 + 2 * i) q)) := by
  rw [ct_arr hT ha.2.1 (by decide)]; rfl
theorem ct_ag (hT : xT X = tb) (ha : tbArr tb) : ct X S (enc 11 i) = .inl (xI X, 40, .inl (fun q => S.1 (1001 + 2 * i) q)) := by
  rw [ct_arr hT ha.2.2.1 (by decide)]; rfl
theorem upd_pl (hT : xT X = tb) (ha : tbArr tb) {j : Nat} {x : Int32} : upd1 X S (su S (1000 + 2 * i) j x) (enc 10 i) (.inl (xI X, nt (S.1 58 i), .inl (upd (fun q => S.1 (1000 + 2 * i) q) j x))) := by
  refine upd1_ar hT (tbArr_no ha (oc_big (by omega))) (by omega) (LI_su (by unfold lc; omega)) ha.2.1 (by decide) ?_ (fun kd' i' h => ar_ne (by omega) (by omega) (by omega) (fun hk => ?_))
  · show Sum.inl (_, nt ((su S (1000 + 2 * i) j x).1 58 i), Sum.inl (fun q => (su S (1000 + 2 * i) j x).1 (1000 + 2 * i) q)) = _
    rw [su_fun, su_ne (Or.inl (by omega))]
  · unfold mCol; split <;> omega
theorem upd_ag (hT : xT X = tb) (ha : tbArr tb) {j : Nat} {x : Int32} : upd1 X S (su S (1001 + 2 * i) j x) (enc 11 i) (.inl (xI X, 40, .inl (upd (fun q => S.1 (1001 + 2 * i) q) j x))) := by
  refine upd1_ar hT (tbArr_no ha (oc_big (by omega))) (by omega) (LI_su (by unfold lc; omega)) ha.2.2.1 (by decide) ?_ (fun kd' i' h => ar_ne (by omega) (by omega) (by omega) (fun hk => ?_))
  · show Sum.inl (_, _, Sum.inl (fun q => (su S (1001 + 2 * i) j x).1 (1001 + 2 * i) q)) = _
    rw [su_fun]
  · unfold mCol; split <;> omega
theorem V_pld (C : Cn X K p l R s m meth c cc own nL fr lo) (hT : xT X = tb) (ha : tbArr tb) {x : Int32} {A : Prop} (h : vp_in x (nt (S.1 58 i)) ∧ A) (hdg : decode cc pc = .ok (.iaload, 1)) (k : A → V X p l e R s m args below meth c nL Q S0 ad0 (S) (pc + 1) (lv) (.int (S.1 (1000 + 2 * i) (nt x)) :: st)) : V X p l e R s m args below meth c nL Q S0 ad0 (S) (pc) (lv) (.int x :: .ref (enc 10 i) :: st) :=
  V_iald C (enc_ne63 (by decide)) (ct_pl hT ha) h.1 hdg (k h.2)
theorem V_pst (C : Cn X K p l R s m meth c cc own nL fr lo) (hT : xT X = tb) (ha : tbArr tb) {x v : Int32} {A : Prop} (h : vp_in x (nt (S.1 58 i)) ∧ A) (hdg : decode cc pc = .ok (.iastore, 1)) (k : A → V X p l e R s m args below meth c nL Q S0 ad0 (su S (1000 + 2 * i) (nt x) v) (pc + 1) (lv) (st)) : V X p l e R s m args below meth c nL Q S0 ad0 (S) (pc) (lv) (.int v :: .int x :: .ref (enc 10 i) :: st) :=
  V_iast C (enc_ne63 (by decide)) (ct_pl hT ha) h.1 (upd_pl hT ha) hdg (k h.2)
theorem V_plen (C : Cn X K p l R s m meth c cc own nL fr lo) (hT : xT X = tb) (ha : tbArr tb) (hdg : decode cc pc = .ok (.arraylength, 1)) (k : V X p l e R s m args below meth c nL Q S0 ad0 (S) (pc + 1) (lv) (.int (nI (nt (S.1 58 i))) :: st)) : V X p l e R s m args below meth c nL Q S0 ad0 (S) (pc) (lv) (.ref (enc 10 i) :: st) :=
  V_alen C (enc_ne63 (by decide)) (ct_pl hT ha) (Or.inl rfl) hdg k
theorem V_ald (C : Cn X K p l R s m meth c cc own nL fr lo) (hT : xT X = tb) (ha : tbArr tb) {x : Int32} {A : Prop} (h : vp_in x 40 ∧ A) (hdg : decode cc pc = .ok (.iaload, 1)) (k : A → V X p l e R s m args below meth c nL Q S0 ad0 (S) (pc + 1) (lv) (.int (S.1 (1001 + 2 * i) (nt x)) :: st)) : V X p l e R s m args below meth c nL Q S0 ad0 (S) (pc) (lv) (.int x :: .ref (enc 11 i) :: st) :=
  V_iald C (enc_ne63 (by decide)) (ct_ag hT ha) h.1 hdg (k h.2)
theorem V_ast2 (C : Cn X K p l R s m meth c cc own nL fr lo) (hT : xT X = tb) (ha : tbArr tb) {x v : Int32} {A : Prop} (h : vp_in x 40 ∧ A) (hdg : decode cc pc = .ok (.iastore, 1)) (k : A → V X p l e R s m args below meth c nL Q S0 ad0 (su S (1001 + 2 * i) (nt x) v) (pc + 1) (lv) (st)) : V X p l e R s m args below meth c nL Q S0 ad0 (S) (pc) (lv) (.int v :: .int x :: .ref (enc 11 i) :: st) :=
  V_iast C (enc_ne63 (by decide)) (ct_ag hT ha) h.1 (upd_ag hT ha) hdg (k h.2)
theorem V_alen2 (C : Cn X K p l R s m meth c cc own nL fr lo) (hT : xT X = tb) (ha : tbArr tb) (hdg : decode cc pc = .ok (.arraylength, 1)) (k : V X p l e R s m args below meth c nL Q S0 ad0 (S) (pc + 1) (lv) (.int (nI 40) :: st)) : V X p l e R s m args below meth c nL Q S0 ad0 (S) (pc) (lv) (.ref (enc 11 i) :: st) :=
  V_alen C (enc_ne63 (by decide)) (ct_ag hT ha) (Or.inl rfl) hdg k
end RB
