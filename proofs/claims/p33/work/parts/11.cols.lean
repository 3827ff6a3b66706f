/-! the tables of the objects' columns, and what a change of one column does to the cells -/
def fdHall : List Fd3 := [(0, 20, 0), (0, 21, 0), (0, 22, 0), (0, 23, 0), (0, 24, 0)]
def fdFilm : List Fd3 := [(0, 30, 0), (0, 31, 0), (0, 32, 0), (0, 33, 0), (0, 34, 0), (0, 35, 0), (0, 36, 0), (0, 37, 0), (0, 38, 0)]
def fdKey : List Fd3 := [(0, 40, 0), (0, 41, 0), (0, 42, 0), (0, 43, 0)]
def fdShow : List Fd3 := [(0, 50, 0), (2, 51, 4), (2, 52, 3), (0, 53, 0), (2, 54, 10), (2, 55, 9), (0, 56, 0), (0, 57, 0)]
def fdHold : List Fd3 := [(2, 60, 6), (0, 61, 0), (0, 62, 0), (0, 63, 0)]
def fdTicket : List Fd3 := [(2, 70, 6), (0, 71, 0), (0, 72, 0), (0, 73, 0), (0, 74, 0)]
def fdLine : List Fd3 := [(2, 80, 11), (0, 81, 0), (0, 82, 0)]
def fdList : List Fd3 := [(0, 11, 0), (2, 13, 2), (0, 12, 0)]
def fdP1 : List Fd3 := [(1, enc 1 0, 0), (1, enc 1 1, 0), (1, enc 1 2, 0), (1, enc 1 3, 0), (1, enc 1 4, 0), (1, enc 1 5, 0), (0, 6, 0), (0, 7, 0)]
def fdP0 : List Fd3 := [(2, 0, 1), (2, 1, 1), (2, 2, 1), (2, 3, 1), (2, 4, 1), (2, 5, 1), (0, 6, 0), (0, 7, 0)]
def tbC : Tb := [(1, 0, fdList), (3, 2, fdHall), (4, 1, fdFilm), (5, 4, fdKey), (6, 6, fdShow), (7, 3, fdHold), (8, 7, fdTicket), (9, 5, fdLine)]
def tb0 : Tb := (0, 8, fdP0) :: tbC
def tb1 : Tb := (0, 8, fdP1) :: tbC
/-- no column stands twice; all are objects' columns -/
def tbCols (tb : Tb) : List (Nat × Nat × Nat) := tb.flatMap fun q => (q.2.2.zipIdx.filter fun d => d.1.1 != 1).map fun d => (d.1.2.1, q.1, d.2)
def oc (c : Nat) : Bool := c ≠ 14 && c ≠ 16 && c ≠ 17 && c ≠ 58 && c ≠ 95 && (c < 99 || 200 ≤ c) && c < 1000
/-- no column of the lists' rows -/
def lc (c : Nat) : Prop := c ≠ 10 ∧ c ≠ 12 ∧ c ≠ 13 ∧ c ≠ 14 ∧ c ≠ 16 ∧ c ≠ 17
def tbOK (tb : Tb) : Bool := (tbCols tb).all fun a => (tbCols tb).all fun b => a.1 ≠ b.1 || (a.2.1 = b.2.1 && a.2.2 = b.2.2)
theorem tb1_ok : tbOK tb1 = true := by decide +kernel
theorem tb0_ok : tbOK tb0 = true := by decide +kernel
theorem su_at {S : Sg} {c i : Nat} {v : Int32} : (su S c i v).1 c i = v := by simp [su]
theorem su_ne {S : Sg} {c i c' i' : Nat} {v : Int32} (h : c' ≠ c ∨ i' ≠ i) : (su S c i v).1 c' i' = S.1 c' i' := by
  show (if c' = c ∧ i' = i then v else S.1 c' i') = _
  rw [if_neg]
  rintro ⟨a, b⟩
  exact h.elim (fun q => q a) (fun q => q b)
theorem LI_su {S : Sg} {c i : Nat} {v : Int32} (h : lc c) (hS : LI S) : LI (su S c i v) := by
  obtain ⟨h1, h2, h3, h4, h5, h6⟩ := h
  refine ⟨fun k => ?_, fun j => ?_⟩
  · rw [su_ne (Or.inl (Ne.symm h1))]; exact hS.1 k
  rw [su_ne (Or.inl (Ne.symm h3)), su_ne (Or.inl (Ne.symm h2)), su_ne (Or.inl (Ne.symm h1)), su_ne (Or.inl (Ne.symm h5)), su_ne (Or.inl (Ne.symm h6)), su_ne (Or.inl (Ne.symm h4))]
  exact hS.2 j
theorem dm_su {S : Sg} {c i : Nat} {v : Int32} (h : c ≠ 10 ∧ c ≠ 15) (id : Nat) : dm (su S c i v) id ↔ dm S id := by
  unfold dm
  rw [su_ne (Or.inl (Ne.symm h.2)), su_ne (Or.inl (Ne.symm h.1))]
theorem ar_su {X : Cx} {S : Sg} {c i k j : Nat} {v : Int32} (h : oc c = true) : ar X (su S c i v) k j = ar X S k j := by
  simp only [oc, Bool.and_eq_true, decide_eq_true_eq, Bool.or_eq_true, ne_eq] at h
  obtain ⟨⟨⟨⟨⟨⟨h2, h1⟩, h7⟩, h3⟩, h4⟩, h5⟩, h6⟩ := h
  unfold ar
  rw [su_ne (Or.inl (fun e => h3 e.symm)), su_ne (Or.inl (fun e => h2 e.symm))]
  have e1 : (fun j' => (su S c i v).1 (1000 + 2 * j) j') = fun j' => S.1 (1000 + 2 * j) j' := funext fun q => su_ne (Or.inl (by omega))
  have e2 : (fun j' => (su S c i v).1 (1001 + 2 * j) j') = fun j' => S.1 (1001 + 2 * j) j' := funext fun q => su_ne (Or.inl (by omega))
  have e3 : (fun j' => (su S c i v).1 (mCol j) j') = fun j' => S.1 (mCol j) j' := funext fun q => su_ne (Or.inl (by unfold mCol; split <;> omega))
  have e4 : (su S c i v).1 95 j = S.1 95 j := su_ne (Or.inl (fun e => h4 e.symm))
  have e5 : (su S c i v).1 16 j = S.1 16 j := su_ne (Or.inl (fun e => h1 e.symm))
  have e6 : (su S c i v).1 17 j = S.1 17 j := su_ne (Or.inl (fun e => h7 e.symm))
  rw [e1, e2, e3, e4, e5, e6]
theorem dv_su {S : Sg} {c i j : Nat} {v : Int32} {d : Fd3} (h : d.1 = 1 ∨ d.2.1 ≠ c ∨ j ≠ i) : dv (su S c i v) j d = dv S j d := by
  unfold dv
  rcases h with h | h | h
  · simp [h]
  · by_cases h0 : d.1 = 0
    · rw [if_pos h0, if_pos h0, su_ne (Or.inl h)]
    · rw [if_neg h0, if_neg h0]
      by_cases h1 : d.1 = 1
      · rw [if_pos h1, if_pos h1]
      · rw [if_neg h1, if_neg h1, su_ne (Or.inl h)]
  · rw [su_ne (Or.inr h)]
theorem lookup_mem {k : Nat} {q : Nat × List Fd3} : ∀ {tb : Tb}, tb.lookup k = some q → (k, q) ∈ tb
  | [], h => by simp at h
  | (k', q') :: r, h => by
    rw [List.lookup_cons] at h
    by_cases hk : k == k'
    · rw [hk] at h
      cases h
      rw [eq_of_beq hk]
      exact List.mem_cons_self
    · simp only [hk] at h
      exact List.mem_cons_of_mem _ (lookup_mem h)
theorem tbCols_mem {tb : Tb} {kd ci k9 : Nat} {fds : List Fd3} {d : Fd3} (h : tb.lookup kd = some (ci, fds)) (hd : fds[k9]? = some d) (h1 : d.1 ≠ 1) : (d.2.1, kd, k9) ∈ tbCols tb := by
  refine List.mem_flatMap.mpr ⟨(kd, ci, fds), lookup_mem h, List.mem_map.mpr ⟨(d, k9), List.mem_filter.mpr ⟨?_, by simpa using h1⟩, rfl⟩⟩
  exact List.mem_zipIdx_iff_getElem?.mpr hd
theorem tb_once {tb : Tb} (hok : tbOK tb = true) {kd ci k9 kd' ci' k' : Nat} {fds fds' : List Fd3} {d d' : Fd3} (h : tb.lookup kd = some (ci, fds)) (hd : fds[k9]? = some d) (h1 : d.1 ≠ 1) (h' : tb.lookup kd' = some (ci', fds')) (hd' : fds'[k']? = some d') (h1' : d'.1 ≠ 1) (he : d'.2.1 = d.2.1) : kd' = kd ∧ k' = k9 := by
  have a := List.all_eq_true.mp (List.all_eq_true.mp hok _ (tbCols_mem h' hd' h1')) _ (tbCols_mem h hd h1)
  simp only [Bool.or_eq_true, decide_eq_true_eq, Bool.and_eq_true, ne_eq] at a
  rcases a with a | a
  · exact absurd he a
  · exact a
theorem om_none {α β : Type} {f g : α → β} : Option.map f none = Option.map g none := rfl
section CO
variable {X : Cx} {S : Sg} {tb : Tb}
theorem ct_obj (hT : xT X = tb) {kd i : Nat} {q : Nat × List Fd3} (h : tb.lookup kd = some q) (hk : kd < 64) : ct X S (enc kd i) = .inr (q.1, q.2.map (dv S i)) := by
  unfold ct
  rw [hT, enc_mod hk, enc_div hk, h]
theorem ct_arr (hT : xT X = tb) {kd i : Nat} (h : tb.lookup kd = none) (hk : kd < 64) : ct X S (enc kd i) = ar X S kd i := by
  unfold ct
  rw [hT, enc_mod hk, enc_div hk, h]
theorem enc_self {id kd : Nat} (h : id % 64 = kd) : id = enc kd (id / 64) := by unfold enc; omega
/-- a field's column changes: its object's field does, nothing else -/
theorem upd1_obj (hT : xT X = tb) (hok : tbOK tb = true) {kd ci k9 i : Nat} {fds : List Fd3} {d : Fd3} (h : tb.lookup kd = some (ci, fds)) (hk : kd < 64) (hd : fds[k9]? = some d) (h1 : d.1 = 0 ∨ d.1 = 2) (hoc : oc d.2.1 = true) (hc : d.2.1 ≠ 10 ∧ d.2.1 ≠ 15) (x : Int32) (hli : LI S → LI (su S d.2.1 i x)) :
    upd1 X S (su S d.2.1 i x) (enc kd i) (.inr (ci, (fds.map (dv S i)).set k9 (dv (su S d.2.1 i x) i d))) := by
  have hd1 : d.1 ≠ 1 := by omega
  have oth : ∀ {kd' ci' : Nat} {fds' : List Fd3} {j : Nat}, tb.lookup kd' = some (ci', fds') → ∀ (k' : Nat) (d' : Fd3), fds'[k']? = some d' → (kd' ≠ kd ∨ k' ≠ k9 ∨ j ≠ i) → dv (su S d.2.1 i x) j d' = dv S j d' := by
    intro kd' ci' fds' j h' k' d' hd' hne
    apply dv_su
    by_cases e1 : d'.1 = 1
    · exact Or.inl e1
    · by_cases hj : j = i
      · refine Or.inr (Or.inl ?_)
        intro he
        obtain ⟨a, b⟩ := tb_once hok h hd hd1 h' hd' e1 he
        rcases hne with q | q | q
        · exact q a
        · exact q b
        · exact q hj
      · exact Or.inr (Or.inr hj)
  refine ⟨rfl, dm_su hc, fun id => ?_, hli⟩
  cases hlk : tb.lookup (id % 64) with
  | none =>
    rw [enc_self (id := id) rfl, ct_arr hT hlk (Nat.mod_lt _ (by decide)), ct_arr hT hlk (Nat.mod_lt _ (by decide)), if_neg, ar_su hoc]
    intro e
    have e2 : id % 64 = kd := by
      have := enc_mod (k := kd) (i := i) hk
      rw [← e] at this
      rw [enc_mod (Nat.mod_lt _ (by decide))] at this
      exact this
    rw [e2, h] at hlk
    cases hlk
  | some q =>
    obtain ⟨ci', fds'⟩ := q
    have hm : id % 64 < 64 := Nat.mod_lt _ (by decide)
    rw [enc_self (id := id) rfl, ct_obj hT hlk hm, ct_obj hT hlk hm]
    by_cases e : id % 64 = kd ∧ id / 64 = i
    · obtain ⟨e1, e2⟩ := e
      rw [e1] at hlk
      cases hlk.symm.trans h
      rw [e1, e2, if_pos rfl]
      show Sum.inr (_, _) = Sum.inr (_, _)
      congr 2
      apply List.ext_getElem?
      intro k'
      rw [List.getElem?_set, List.getElem?_map]
      by_cases hk' : k9 = k'
      · subst hk'
        have hl : k9 < (fds.map (dv S i)).length := by rw [List.length_map]; exact (List.getElem?_eq_some_iff.mp hd).1
        rw [if_pos rfl, if_pos hl, hd]
        rfl
      · rw [if_neg hk', List.getElem?_map]
        cases hq : fds[k']? with
        | none => exact om_none
        | some d' =>
          show some _ = some _
          rw [oth h k' d' hq (Or.inr (Or.inl (Ne.symm hk')))]
    · rw [if_neg]
      · show Sum.inr (_, _) = Sum.inr (_, _)
        congr 2
        apply List.ext_getElem?
        intro k'
        rw [List.getElem?_map, List.getElem?_map]
        cases hq : fds'[k']? with
        | none => exact om_none
        | some d' =>
          show some _ = some _
          rw [oth hlk k' d' hq]
          by_cases q1 : id % 64 = kd
          · exact Or.inr (Or.inr (fun q2 => e ⟨q1, q2⟩))
          · exact Or.inl q1
      · intro e9
        refine e ⟨?_, ?_⟩
        · have := congrArg (· % 64) e9
          simpa [enc_mod hk, enc_mod hm] using this
        · have := congrArg (· / 64) e9
          simpa [enc_div hk, enc_div hm] using this
end CO
