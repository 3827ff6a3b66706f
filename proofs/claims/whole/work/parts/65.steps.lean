/-! the law's steps: one call of both, and what must be equal (mk65.py writes this part) -/
section LS
variable {n : Nat} {g : Gm} {S : Sg} {K : Sg → Prop}
theorem cC_o {S1 : Sg} (h : cC S g) (k : ∀ c i, c ≠ 95 → S1.1 c i = S.1 c i) : cC S1 g := by
  obtain ⟨h1, h2, h3, h4, h5, h6, h7, h8⟩ := h
  have z1 : ∀ q ∈ colT, q.1 ≠ 95 := by decide
  have z2 : ∀ q ∈ idT, q.1 ≠ 95 := by decide
  have z3 : ∀ q ∈ scT, q.1 ≠ 95 := by decide
  refine ⟨fun q hq i a b => ?_, fun q hq i a b => ?_, fun q hq => ?_, fun j hj => ?_, fun s a b => ?_, fun s a b => ?_, fun s a b => ?_, fun s p a b c d => ?_⟩
  · rw [k _ _ (z1 q hq)]; exact h1 q hq i a b
  · rw [k _ _ (z2 q hq)]; exact h2 q hq i a b
  · rw [k _ _ (z3 q hq)]; exact h3 q hq
  · rw [k _ _ (by omega)]; exact h4 j hj
  · rw [k _ _ (by omega)]; exact h5 s a b
  · rw [k _ _ (by omega)]; exact h6 s a b
  · rw [k _ _ (by omega)]
    obtain ⟨q1, q2, q3⟩ := h7 s a b
    exact ⟨q1, q2, fun k9 a9 b9 => by rw [k _ _ (by omega)]; exact q3 k9 a9 b9⟩
  · rw [k _ _ (by omega)]; exact h8 s p a b c d
/-- the reference's call, its number thrown, its answer, and then K -/
def LQ (wm : Sg → (Nat → Int32 → Sg → Prop) → Prop) (K : Sg → Prop) : Nat → Int32 → Sg → Prop := fun k v S => k = 0 ∧ wm S (fun k2 v2 S2 => k2 = 0 ∧ S2.1 342 0 = v ∧ (v = 0 → S2.1 95 0 = v2) ∧ K S2)
def LQz (wm : Sg → (Nat → Int32 → Sg → Prop) → Prop) (K : Sg → Prop) : Nat → Int32 → Sg → Prop := fun k v S => k = 0 ∧ wm S (fun k2 v2 S2 => k2 = 0 ∧ S2.1 342 0 = v ∧ (v = 0 → S2.1 95 0 = if v2 = 0 then 0 else 1) ∧ K S2)
def LQv (wm : Sg → (Nat → Int32 → Sg → Prop) → Prop) (K : Sg → Prop) : Nat → Int32 → Sg → Prop := fun k v S => k = 0 ∧ wm S (fun k2 _ S2 => k2 = 0 ∧ S2.1 342 0 = v ∧ K S2)
theorem bd_clf {S1 : Sg} (hB : Bd n S) (h : clf S S1) : Bd n S1 := bd_same hB h.2 (fun i => h.1 12 i (by unfold mc; omega))
theorem stepH {l : List Nat} {r : Rr} {wc wm : Sg → (Nat → Int32 → Sg → Prop) → Prop} (hc : ∀ Q, cPost n r S Q → wc S Q) (hm : ∀ S1 Q, mC S1 g → mPost l r S1 Q → wm S1 Q) (hr : r.1 = 0 ∨ (r.1 ∈ l ∧ ¬ thx l r.1 = 0)) (hM : mC S g) (hK : ∀ T, cC T r.2.2 → mC T r.2.2 → Bd (n + 1) T → K T) : wc S (wH l (LQ wm K)) := by
  refine hc _ (fun S1 c1 f1 b1 => ⟨fun h0 => ⟨rfl, ?_⟩, fun h0 => ⟨(hr.resolve_left h0).1, rfl, ?_⟩⟩)
  · refine hm _ _ (mC_fr (mC_fr hM f1) (fr_su fr_rf (by unfold mc; omega))) (fun S2 v2 m2 c2 t2 e2 => ⟨rfl, ?_, fun _ => ?_, hK S2 (cC_clf (cC_o c1 (fun c i h => su_ne (Or.inl h))) c2) m2 (bd_clf (bd_same (T := su S1 95 0 r.2.1) b1 rfl (fun i => su_ne (Or.inl (by decide)))) c2)⟩)
    · rw [t2, h0]; rfl
    · rw [c2.1 95 0 (by unfold mc; omega), su_at, e2 h0]
  · exact hm _ _ (mC_fr hM f1) (fun S2 v2 m2 c2 t2 e2 => ⟨rfl, t2, fun z => absurd z (hr.resolve_left h0).2, hK S2 (cC_clf c1 c2) m2 (bd_clf b1 c2)⟩)
theorem stepZ {l : List Nat} {r : Rr} {wc wm : Sg → (Nat → Int32 → Sg → Prop) → Prop} (hz : r.1 = 0 → r.2.1 = 0 ∨ r.2.1 = 1) (hc : ∀ Q, cPost n r S Q → wc S Q) (hm : ∀ S1 Q, mC S1 g → mPost l r S1 Q → wm S1 Q) (hr : r.1 = 0 ∨ (r.1 ∈ l ∧ ¬ thx l r.1 = 0)) (hM : mC S g) (hK : ∀ T, cC T r.2.2 → mC T r.2.2 → Bd (n + 1) T → K T) : wc S (wHz l (LQz wm K)) := by
  have go : ∀ (x : Int32) (S1 : Sg), cC S1 r.2.2 → fr S S1 → Bd (n + 1) S1 → r.1 = 0 → x = (if r.2.1 = 0 then 0 else 1) → LQz wm K 0 0 (su S1 95 0 x) := fun x S1 c1 f1 b1 h0 hx => by
    refine ⟨rfl, hm _ _ (mC_fr (mC_fr hM f1) (fr_su fr_rf (by unfold mc; omega))) (fun S2 v2 m2 c2 t2 e2 => ⟨rfl, ?_, fun _ => ?_, hK S2 (cC_clf (cC_o c1 (fun c i h => su_ne (Or.inl h))) c2) m2 (bd_clf (bd_same (T := su S1 95 0 x) b1 rfl (fun i => su_ne (Or.inl (by decide)))) c2)⟩)⟩
    · rw [t2, h0]; rfl
    · rw [c2.1 95 0 (by unfold mc; omega), su_at, e2 h0, hx]
  refine hc _ (fun S1 c1 f1 b1 => ⟨fun h0 => ⟨fun v0 => go 0 S1 c1 f1 b1 h0 (by rw [if_pos v0]), fun v0 => go 1 S1 c1 f1 b1 h0 (by rw [if_neg v0])⟩, fun h0 => ⟨(hr.resolve_left h0).1, rfl, ?_⟩⟩)
  exact hm _ _ (mC_fr hM f1) (fun S2 v2 m2 c2 t2 e2 => ⟨rfl, t2, fun z => absurd z (hr.resolve_left h0).2, hK S2 (cC_clf c1 c2) m2 (bd_clf b1 c2)⟩)
theorem stepV {l : List Nat} {r : Rr} {wc wm : Sg → (Nat → Int32 → Sg → Prop) → Prop} (hc : ∀ Q, cPost n r S Q → wc S Q) (hm : ∀ S1 Q, mC S1 g → mPost l r S1 Q → wm S1 Q) (hr : r.1 = 0 ∨ (r.1 ∈ l ∧ ¬ thx l r.1 = 0)) (hM : mC S g) (hK : ∀ T, cC T r.2.2 → mC T r.2.2 → Bd (n + 1) T → K T) : wc S (wHv l (LQv wm K)) := by
  refine hc _ (fun S1 c1 f1 b1 => ⟨fun h0 => ⟨rfl, ?_⟩, fun h0 => ⟨(hr.resolve_left h0).1, rfl, ?_⟩⟩)
  · exact hm _ _ (mC_fr hM f1) (fun S2 v2 m2 c2 t2 e2 => ⟨rfl, by rw [t2, h0]; rfl, hK S2 (cC_clf c1 c2) m2 (bd_clf b1 c2)⟩)
  · exact hm _ _ (mC_fr hM f1) (fun S2 v2 m2 c2 t2 e2 => ⟨rfl, t2, hK S2 (cC_clf c1 c2) m2 (bd_clf b1 c2)⟩)
/-- what holds at the loop's head after n calls -/
def Rel (n : Nat) (S : Sg) : Prop := ∃ g, Iv g ∧ cC S g ∧ mC S g ∧ Bd n S

theorem rq_12_1 : 1 = 0 ∨ (1 ∈ ([1, 2] : List Nat) ∧ ¬ thx [1, 2] 1 = 0) := by decide
theorem rq_12_2 : 2 = 0 ∨ (2 ∈ ([1, 2] : List Nat) ∧ ¬ thx [1, 2] 2 = 0) := by decide
theorem rq_1_1 : 1 = 0 ∨ (1 ∈ ([1] : List Nat) ∧ ¬ thx [1] 1 = 0) := by decide
theorem rq_312_3 : 3 = 0 ∨ (3 ∈ ([3, 1, 2] : List Nat) ∧ ¬ thx [3, 1, 2] 3 = 0) := by decide
theorem rq_312_1 : 1 = 0 ∨ (1 ∈ ([3, 1, 2] : List Nat) ∧ ¬ thx [3, 1, 2] 1 = 0) := by decide
theorem rq_312_2 : 2 = 0 ∨ (2 ∈ ([3, 1, 2] : List Nat) ∧ ¬ thx [3, 1, 2] 2 = 0) := by decide
theorem rq_31_3 : 3 = 0 ∨ (3 ∈ ([3, 1] : List Nat) ∧ ¬ thx [3, 1] 3 = 0) := by decide
theorem rq_31_1 : 1 = 0 ∨ (1 ∈ ([3, 1] : List Nat) ∧ ¬ thx [3, 1] 1 = 0) := by decide
theorem rq_32_3 : 3 = 0 ∨ (3 ∈ ([3, 2] : List Nat) ∧ ¬ thx [3, 2] 3 = 0) := by decide
theorem rq_32_2 : 2 = 0 ∨ (2 ∈ ([3, 2] : List Nat) ∧ ¬ thx [3, 2] 2 = 0) := by decide
theorem rq_3_3 : 3 = 0 ∨ (3 ∈ ([3] : List Nat) ∧ ¬ thx [3] 3 = 0) := by decide
theorem rc_hall {a b : Int32} : (rHall g a b).1 = 0 ∨ ((rHall g a b).1 ∈ [1, 2] ∧ ¬ thx [1, 2] (rHall g a b).1 = 0) := by
  unfold rHall
  repeat' split
  all_goals first | exact Or.inl rfl | exact rq_12_1 | exact rq_12_2
theorem ls_hall {a b : Int32} (hn : n < 512) (hRel : Rel n S) (hK : ∀ T, Rel (n + 1) T → K T) : w_L_hall a b S (LQ (fun S Q => w_X8_hall a b S Q) K) := by
  obtain ⟨g, hI, hC, hM, hB⟩ := hRel
  exact stepH (wc := fun S Q => w_X7_hall a b S Q) (fun Q h => cls_hall hC hI hB hn h) (fun S1 Q m9 h => mod_hall m9 hI h) rc_hall hM (fun T c m b => hK T ⟨_, Iv_hall hI, c, m, b⟩)
theorem rc_lamp {h m x : Int32} : (rLamp g h m x).1 = 0 ∨ ((rLamp g h m x).1 ∈ [3, 1] ∧ ¬ thx [3, 1] (rLamp g h m x).1 = 0) := by
  unfold rLamp
  repeat' split
  all_goals first | exact Or.inl rfl | exact rq_31_3 | exact rq_31_1
theorem ls_lamp {h m x : Int32} (hn : n < 512) (hRel : Rel n S) (hK : ∀ T, Rel (n + 1) T → K T) : w_L_lamp h m x S (LQ (fun S Q => w_X8_lamp h m x S Q) K) := by
  obtain ⟨g, hI, hC, hM, hB⟩ := hRel
  exact stepH (wc := fun S Q => w_X7_lamp h m x S Q) (fun Q h => cls_lamp hC hI hB hn h) (fun S1 Q m9 h => mod_lamp m9 hI h) rc_lamp hM (fun T c m b => hK T ⟨_, Iv_lamp hI, c, m, b⟩)
theorem rc_film {a b d : Int32} : (rFilm g a b d).1 = 0 ∨ ((rFilm g a b d).1 ∈ [1, 2] ∧ ¬ thx [1, 2] (rFilm g a b d).1 = 0) := by
  unfold rFilm
  repeat' split
  all_goals first | exact Or.inl rfl | exact rq_12_1 | exact rq_12_2
theorem ls_film {a b d : Int32} (hn : n < 512) (hRel : Rel n S) (hK : ∀ T, Rel (n + 1) T → K T) : w_L_film a b d S (LQ (fun S Q => w_X8_film a b d S Q) K) := by
  obtain ⟨g, hI, hC, hM, hB⟩ := hRel
  exact stepH (wc := fun S Q => w_X7_film a b d S Q) (fun Q h => cls_film hC hI hB hn h) (fun S1 Q m9 h => mod_film m9 hI h) rc_film hM (fun T c m b => hK T ⟨_, Iv_film hI, c, m, b⟩)
theorem rc_terms {f a b c d e : Int32} : (rTerms g f a b c d e).1 = 0 ∨ ((rTerms g f a b c d e).1 ∈ [3, 1] ∧ ¬ thx [3, 1] (rTerms g f a b c d e).1 = 0) := by
  unfold rTerms
  repeat' split
  all_goals first | exact Or.inl rfl | exact rq_31_3 | exact rq_31_1
theorem ls_terms {f a b c d e : Int32} (hn : n < 512) (hRel : Rel n S) (hK : ∀ T, Rel (n + 1) T → K T) : w_L_terms f a b c d e S (LQv (fun S Q => w_X8_terms f a b c d e S Q) K) := by
  obtain ⟨g, hI, hC, hM, hB⟩ := hRel
  exact stepV (wc := fun S Q => w_X7_terms f a b c d e S Q) (fun Q h => cls_terms hC hI hB hn h) (fun S1 Q m9 h => mod_terms m9 hI h) rc_terms hM (fun T c m b => hK T ⟨_, Iv_terms hI, c, m, b⟩)
theorem rc_key {f h a b : Int32} : (rKey g f h a b).1 = 0 ∨ ((rKey g f h a b).1 ∈ [3, 1, 2] ∧ ¬ thx [3, 1, 2] (rKey g f h a b).1 = 0) := by
  unfold rKey
  repeat' split
  all_goals first | exact Or.inl rfl | exact rq_312_3 | exact rq_312_1 | exact rq_312_2
theorem ls_key {f h a b : Int32} (hn : n < 512) (hRel : Rel n S) (hK : ∀ T, Rel (n + 1) T → K T) : w_L_key f h a b S (LQ (fun S Q => w_X8_key f h a b S Q) K) := by
  obtain ⟨g, hI, hC, hM, hB⟩ := hRel
  exact stepH (wc := fun S Q => w_X7_key f h a b S Q) (fun Q h => cls_key hC hI hB hn h) (fun S1 Q m9 h => mod_key m9 hI h) rc_key hM (fun T c m b => hK T ⟨_, Iv_key hI, c, m, b⟩)
theorem rc_spread {m : Int32} : (rSpread g m).1 = 0 ∨ ((rSpread g m).1 ∈ [1] ∧ ¬ thx [1] (rSpread g m).1 = 0) := by
  unfold rSpread
  repeat' split
  all_goals first | exact Or.inl rfl | exact rq_1_1
theorem ls_spread {m : Int32} (hn : n < 512) (hRel : Rel n S) (hK : ∀ T, Rel (n + 1) T → K T) : w_L_spread m S (LQ (fun S Q => w_X8_spread m S Q) K) := by
  obtain ⟨g, hI, hC, hM, hB⟩ := hRel
  exact stepH (wc := fun S Q => w_X7_spread m S Q) (fun Q h => cls_spread hC hI hB hn h) (fun S1 Q m9 h => mod_spread m9 hI h) rc_spread hM (fun T c m b => hK T ⟨_, Iv_spread hI, c, m, b⟩)
theorem rc_show {f h t : Int32} : (rShow g f h t).1 = 0 ∨ ((rShow g f h t).1 ∈ [3, 1, 2] ∧ ¬ thx [3, 1, 2] (rShow g f h t).1 = 0) := by
  unfold rShow
  repeat' split
  all_goals first | exact Or.inl rfl | exact rq_312_3 | exact rq_312_1 | exact rq_312_2
theorem ls_show {f h t : Int32} (hn : n < 512) (hRel : Rel n S) (hK : ∀ T, Rel (n + 1) T → K T) : w_L_show f h t S (LQ (fun S Q => w_X8_show f h t S Q) K) := by
  obtain ⟨g, hI, hC, hM, hB⟩ := hRel
  exact stepH (wc := fun S Q => w_X7_show f h t S Q) (fun Q h => cls_show hC hI hB hn h) (fun S1 Q m9 h => mod_show m9 hI h) rc_show hM (fun T c m b => hK T ⟨_, Iv_show hI, c, m, b⟩)
theorem rc_cancel {s : Int32} : (rCancel g s).1 = 0 ∨ ((rCancel g s).1 ∈ [3, 2] ∧ ¬ thx [3, 2] (rCancel g s).1 = 0) := by
  unfold rCancel
  repeat' split
  all_goals first | exact Or.inl rfl | exact rq_32_3 | exact rq_32_2
theorem ls_cancel {s : Int32} (hn : n < 512) (hRel : Rel n S) (hK : ∀ T, Rel (n + 1) T → K T) : w_L_cancel s S (LQ (fun S Q => w_X8_cancel s S Q) K) := by
  obtain ⟨g, hI, hC, hM, hB⟩ := hRel
  exact stepH (wc := fun S Q => w_X7_cancel s S Q) (fun Q h => cls_cancel hC hI hB hn h) (fun S1 Q m9 h => mod_cancel m9 hI h) rc_cancel hM (fun T c m b => hK T ⟨_, Iv_cancel hI, c, m, b⟩)
theorem rc_breaks {s : Int32} : (rBreaks g s).1 = 0 ∨ ((rBreaks g s).1 ∈ [3, 2] ∧ ¬ thx [3, 2] (rBreaks g s).1 = 0) := by
  unfold rBreaks
  repeat' split
  all_goals first | exact Or.inl rfl | exact rq_32_3 | exact rq_32_2
theorem ls_breaks {s : Int32} (hn : n < 512) (hRel : Rel n S) (hK : ∀ T, Rel (n + 1) T → K T) : w_L_breaks s S (LQ (fun S Q => w_X8_breaks s S Q) K) := by
  obtain ⟨g, hI, hC, hM, hB⟩ := hRel
  exact stepH (wc := fun S Q => w_X7_breaks s S Q) (fun Q h => cls_breaks hC hI hB hn h) (fun S1 Q m9 h => mod_breaks m9 hI h) rc_breaks hM (fun T c m b => hK T ⟨_, Iv_breaks hI, c, m, b⟩)
theorem rc_pass {m : Int32} : (rPass g m).1 = 0 ∨ ((rPass g m).1 ∈ [1, 2] ∧ ¬ thx [1, 2] (rPass g m).1 = 0) := by
  unfold rPass
  repeat' split
  all_goals first | exact Or.inl rfl | exact rq_12_1 | exact rq_12_2
theorem ls_pass {m : Int32} (hn : n < 512) (hRel : Rel n S) (hK : ∀ T, Rel (n + 1) T → K T) : w_L_pass m S (LQ (fun S Q => w_X8_pass m S Q) K) := by
  obtain ⟨g, hI, hC, hM, hB⟩ := hRel
  exact stepH (wc := fun S Q => w_X7_pass m S Q) (fun Q h => cls_pass hC hI hB hn h) (fun S1 Q m9 h => mod_pass m9 hI h) rc_pass hM (fun T c m b => hK T ⟨_, Iv_pass hI, c, m, b⟩)
theorem rc_hold {s r p m : Int32} : (rHold g s r p m).1 = 0 ∨ ((rHold g s r p m).1 ∈ [3, 1, 2] ∧ ¬ thx [3, 1, 2] (rHold g s r p m).1 = 0) := by
  unfold rHold
  repeat' split
  all_goals first | exact Or.inl rfl | exact rq_312_3 | exact rq_312_1 | exact rq_312_2
theorem ls_hold {s r p m : Int32} (hn : n < 512) (hRel : Rel n S) (hK : ∀ T, Rel (n + 1) T → K T) : w_L_hold s r p m S (LQ (fun S Q => w_X8_hold s r p m S Q) K) := by
  obtain ⟨g, hI, hC, hM, hB⟩ := hRel
  exact stepH (wc := fun S Q => w_X7_hold s r p m S Q) (fun Q h => cls_hold hC hI hB hn h) (fun S1 Q m9 h => mod_hold m9 hI h) rc_hold hM (fun T c m b => hK T ⟨_, Iv_hold hI, c, m, b⟩)
theorem rc_letGo {k : Int32} : (rLetGo g k).1 = 0 ∨ ((rLetGo g k).1 ∈ [3, 2] ∧ ¬ thx [3, 2] (rLetGo g k).1 = 0) := by
  unfold rLetGo
  repeat' split
  all_goals first | exact Or.inl rfl | exact rq_32_3 | exact rq_32_2
theorem ls_letGo {k : Int32} (hn : n < 512) (hRel : Rel n S) (hK : ∀ T, Rel (n + 1) T → K T) : w_L_letGo k S (LQ (fun S Q => w_X8_letGo k S Q) K) := by
  obtain ⟨g, hI, hC, hM, hB⟩ := hRel
  exact stepH (wc := fun S Q => w_X7_letGo k S Q) (fun Q h => cls_letGo hC hI hB hn h) (fun S1 Q m9 h => mod_letGo m9 hI h) rc_letGo hM (fun T c m b => hK T ⟨_, Iv_letGo hI, c, m, b⟩)
theorem rc_buy {k age : Int32} : (rBuy g k age).1 = 0 ∨ ((rBuy g k age).1 ∈ [3, 1, 2] ∧ ¬ thx [3, 1, 2] (rBuy g k age).1 = 0) := by
  unfold rBuy
  repeat' split
  all_goals first | exact Or.inl rfl | exact rq_312_3 | exact rq_312_1 | exact rq_312_2
theorem ls_buy {k age : Int32} (hn : n < 512) (hRel : Rel n S) (hK : ∀ T, Rel (n + 1) T → K T) : w_L_buy k age S (LQ (fun S Q => w_X8_buy k age S Q) K) := by
  obtain ⟨g, hI, hC, hM, hB⟩ := hRel
  exact stepH (wc := fun S Q => w_X7_buy k age S Q) (fun Q h => cls_buy hC hI hB hn h) (fun S1 Q m9 h => mod_buy m9 hI h) rc_buy hM (fun T c m b => hK T ⟨_, Iv_buy hI, c, m, b⟩)
theorem rc_sell {s r p age : Int32} : (rSell g s r p age).1 = 0 ∨ ((rSell g s r p age).1 ∈ [3, 1, 2] ∧ ¬ thx [3, 1, 2] (rSell g s r p age).1 = 0) := by
  unfold rSell
  repeat' split
  all_goals first | exact Or.inl rfl | exact rq_312_3 | exact rq_312_1 | exact rq_312_2
theorem ls_sell {s r p age : Int32} (hn : n < 512) (hRel : Rel n S) (hK : ∀ T, Rel (n + 1) T → K T) : w_L_sell s r p age S (LQ (fun S Q => w_X8_sell s r p age S Q) K) := by
  obtain ⟨g, hI, hC, hM, hB⟩ := hRel
  exact stepH (wc := fun S Q => w_X7_sell s r p age S Q) (fun Q h => cls_sell hC hI hB hn h) (fun S1 Q m9 h => mod_sell m9 hI h) rc_sell hM (fun T c m b => hK T ⟨_, Iv_sell hI, c, m, b⟩)
theorem rc_group {s many age : Int32} : (rGroup g s many age).1 = 0 ∨ ((rGroup g s many age).1 ∈ [3, 1, 2] ∧ ¬ thx [3, 1, 2] (rGroup g s many age).1 = 0) := by
  unfold rGroup
  repeat' split
  all_goals first | exact Or.inl rfl | exact rq_312_3 | exact rq_312_1 | exact rq_312_2
theorem ls_group {s many age : Int32} (hn : n < 512) (hRel : Rel n S) (hK : ∀ T, Rel (n + 1) T → K T) : w_L_group s many age S (LQ (fun S Q => w_X8_group s many age S Q) K) := by
  obtain ⟨g, hI, hC, hM, hB⟩ := hRel
  exact stepH (wc := fun S Q => w_X7_group s many age S Q) (fun Q h => cls_group hC hI hB hn h) (fun S1 Q m9 h => mod_group m9 hI h) rc_group hM (fun T c m b => hK T ⟨_, Iv_group hI, c, m, b⟩)
theorem rc_giveBack {t : Int32} : (rBack g t).1 = 0 ∨ ((rBack g t).1 ∈ [3, 2] ∧ ¬ thx [3, 2] (rBack g t).1 = 0) := by
  unfold rBack
  repeat' split
  all_goals first | exact Or.inl rfl | exact rq_32_3 | exact rq_32_2
theorem ls_giveBack {t : Int32} (hn : n < 512) (hRel : Rel n S) (hK : ∀ T, Rel (n + 1) T → K T) : w_L_giveBack t S (LQ (fun S Q => w_X8_giveBack t S Q) K) := by
  obtain ⟨g, hI, hC, hM, hB⟩ := hRel
  exact stepH (wc := fun S Q => w_X7_giveBack t S Q) (fun Q h => cls_giveBack hC hI hB hn h) (fun S1 Q m9 h => mod_giveBack m9 hI h) rc_giveBack hM (fun T c m b => hK T ⟨_, Iv_back hI, c, m, b⟩)
theorem rc_join {s age m : Int32} : (rJoin g s age m).1 = 0 ∨ ((rJoin g s age m).1 ∈ [3, 1, 2] ∧ ¬ thx [3, 1, 2] (rJoin g s age m).1 = 0) := by
  unfold rJoin
  repeat' split
  all_goals first | exact Or.inl rfl | exact rq_312_3 | exact rq_312_1 | exact rq_312_2
theorem ls_join {s age m : Int32} (hm : m = 0 ∨ m = 1) (hn : n < 512) (hRel : Rel n S) (hK : ∀ T, Rel (n + 1) T → K T) : w_L_join s age m S (LQ (fun S Q => w_X8_join s age m S Q) K) := by
  obtain ⟨g, hI, hC, hM, hB⟩ := hRel
  exact stepH (wc := fun S Q => w_X7_join s age m S Q) (fun Q h => cls_join hm hC hI hB hn h) (fun S1 Q m9 h => mod_join hm m9 hI h) rc_join hM (fun T c m b => hK T ⟨_, Iv_join hm hI, c, m, b⟩)
theorem rc_fits {f h t : Int32} : (rFits g f h t).1 = 0 ∨ ((rFits g f h t).1 ∈ [3, 1] ∧ ¬ thx [3, 1] (rFits g f h t).1 = 0) := by
  unfold rFits
  repeat' split
  all_goals first | exact Or.inl rfl | exact rq_31_3 | exact rq_31_1
theorem Iw_fits {f h t : Int32} (hI : Iv g) : Iv (rFits g f h t).2.2 := by
  unfold rFits
  repeat' split
  all_goals exact hI
theorem ls_fits {f h t : Int32} (hn : n < 512) (hRel : Rel n S) (hK : ∀ T, Rel (n + 1) T → K T) : w_L_fits f h t S (LQ (fun S Q => w_X8_fits f h t S Q) K) := by
  obtain ⟨g, hI, hC, hM, hB⟩ := hRel
  exact stepH (wc := fun S Q => w_X7_fits f h t S Q) (fun Q h => cls_fits hC hI hB hn h) (fun S1 Q m9 h => mod_fits m9 hI h) rc_fits hM (fun T c m b => hK T ⟨_, Iw_fits hI, c, m, b⟩)
theorem rc_first {f h t : Int32} : (rFirst g f h t).1 = 0 ∨ ((rFirst g f h t).1 ∈ [3, 1] ∧ ¬ thx [3, 1] (rFirst g f h t).1 = 0) := by
  unfold rFirst
  repeat' split
  all_goals first | exact Or.inl rfl | exact rq_31_3 | exact rq_31_1
theorem Iw_first {f h t : Int32} (hI : Iv g) : Iv (rFirst g f h t).2.2 := by
  unfold rFirst
  repeat' split
  all_goals exact hI
theorem ls_first {f h t : Int32} (hn : n < 512) (hRel : Rel n S) (hK : ∀ T, Rel (n + 1) T → K T) : w_L_first f h t S (LQ (fun S Q => w_X8_first f h t S Q) K) := by
  obtain ⟨g, hI, hC, hM, hB⟩ := hRel
  exact stepH (wc := fun S Q => w_X7_first f h t S Q) (fun Q h => cls_first hC hI hB hn h) (fun S1 Q m9 h => mod_first m9 hI h) rc_first hM (fun T c m b => hK T ⟨_, Iw_first hI, c, m, b⟩)
theorem rc_price {s age : Int32} : (rPrice g s age).1 = 0 ∨ ((rPrice g s age).1 ∈ [3, 1] ∧ ¬ thx [3, 1] (rPrice g s age).1 = 0) := by
  unfold rPrice
  repeat' split
  all_goals first | exact Or.inl rfl | exact rq_31_3 | exact rq_31_1
theorem Iw_price {s age : Int32} (hI : Iv g) : Iv (rPrice g s age).2.2 := by
  unfold rPrice
  repeat' split
  all_goals exact hI
theorem ls_price {s age : Int32} (hn : n < 512) (hRel : Rel n S) (hK : ∀ T, Rel (n + 1) T → K T) : w_L_price s age S (LQ (fun S Q => w_X8_price s age S Q) K) := by
  obtain ⟨g, hI, hC, hM, hB⟩ := hRel
  exact stepH (wc := fun S Q => w_X7_price s age S Q) (fun Q h => cls_price hC hI hB hn h) (fun S1 Q m9 h => mod_price m9 hI h) rc_price hM (fun T c m b => hK T ⟨_, Iw_price hI, c, m, b⟩)
theorem rc_seat {s r p : Int32} : (rSeat g s r p).1 = 0 ∨ ((rSeat g s r p).1 ∈ [3] ∧ ¬ thx [3] (rSeat g s r p).1 = 0) := by
  unfold rSeat
  repeat' split
  all_goals first | exact Or.inl rfl | exact rq_3_3
theorem Iw_seat {s r p : Int32} (hI : Iv g) : Iv (rSeat g s r p).2.2 := by
  unfold rSeat
  repeat' split
  all_goals exact hI
theorem ls_seat {s r p : Int32} (hn : n < 512) (hRel : Rel n S) (hK : ∀ T, Rel (n + 1) T → K T) : w_L_seat s r p S (LQ (fun S Q => w_X8_seat s r p S Q) K) := by
  obtain ⟨g, hI, hC, hM, hB⟩ := hRel
  exact stepH (wc := fun S Q => w_X7_seat s r p S Q) (fun Q h => cls_seat hC hI hB hn h) (fun S1 Q m9 h => mod_seat m9 hI h) rc_seat hM (fun T c m b => hK T ⟨_, Iw_seat hI, c, m, b⟩)
theorem rc_ofShow {s w : Int32} : (rOfShow g s w).1 = 0 ∨ ((rOfShow g s w).1 ∈ [3] ∧ ¬ thx [3] (rOfShow g s w).1 = 0) := by
  unfold rOfShow
  repeat' split
  all_goals first | exact Or.inl rfl | exact rq_3_3
theorem Iw_ofShow {s w : Int32} (hI : Iv g) : Iv (rOfShow g s w).2.2 := by
  unfold rOfShow
  repeat' split
  all_goals exact hI
theorem ls_ofShow {s w : Int32} (hn : n < 512) (hRel : Rel n S) (hK : ∀ T, Rel (n + 1) T → K T) : w_L_ofShow s w S (LQ (fun S Q => w_X8_ofShow s w S Q) K) := by
  obtain ⟨g, hI, hC, hM, hB⟩ := hRel
  exact stepH (wc := fun S Q => w_X7_ofShow s w S Q) (fun Q h => cls_ofShow hC hI hB hn h) (fun S1 Q m9 h => mod_ofShow m9 hI h) rc_ofShow hM (fun T c m b => hK T ⟨_, Iw_ofShow hI, c, m, b⟩)
theorem rc_ofTicket {t w : Int32} : (rOfTicket g t w).1 = 0 ∨ ((rOfTicket g t w).1 ∈ [3] ∧ ¬ thx [3] (rOfTicket g t w).1 = 0) := by
  unfold rOfTicket
  repeat' split
  all_goals first | exact Or.inl rfl | exact rq_3_3
theorem Iw_ofTicket {t w : Int32} (hI : Iv g) : Iv (rOfTicket g t w).2.2 := by
  unfold rOfTicket
  repeat' split
  all_goals exact hI
theorem ls_ofTicket {t w : Int32} (hn : n < 512) (hRel : Rel n S) (hK : ∀ T, Rel (n + 1) T → K T) : w_L_ofTicket t w S (LQ (fun S Q => w_X8_ofTicket t w S Q) K) := by
  obtain ⟨g, hI, hC, hM, hB⟩ := hRel
  exact stepH (wc := fun S Q => w_X7_ofTicket t w S Q) (fun Q h => cls_ofTicket hC hI hB hn h) (fun S1 Q m9 h => mod_ofTicket m9 hI h) rc_ofTicket hM (fun T c m b => hK T ⟨_, Iw_ofTicket hI, c, m, b⟩)
theorem rc_ofHall {h w : Int32} : (rOfHall g h w).1 = 0 ∨ ((rOfHall g h w).1 ∈ [3] ∧ ¬ thx [3] (rOfHall g h w).1 = 0) := by
  unfold rOfHall
  repeat' split
  all_goals first | exact Or.inl rfl | exact rq_3_3
theorem Iw_ofHall {h w : Int32} (hI : Iv g) : Iv (rOfHall g h w).2.2 := by
  unfold rOfHall
  repeat' split
  all_goals exact hI
theorem ls_ofHall {h w : Int32} (hn : n < 512) (hRel : Rel n S) (hK : ∀ T, Rel (n + 1) T → K T) : w_L_ofHall h w S (LQ (fun S Q => w_X8_ofHall h w S Q) K) := by
  obtain ⟨g, hI, hC, hM, hB⟩ := hRel
  exact stepH (wc := fun S Q => w_X7_ofHall h w S Q) (fun Q h => cls_ofHall hC hI hB hn h) (fun S1 Q m9 h => mod_ofHall m9 hI h) rc_ofHall hM (fun T c m b => hK T ⟨_, Iw_ofHall hI, c, m, b⟩)
theorem rc_takings {f w : Int32} : (rTakings g f w).1 = 0 ∨ ((rTakings g f w).1 ∈ [3, 1] ∧ ¬ thx [3, 1] (rTakings g f w).1 = 0) := by
  unfold rTakings
  repeat' split
  all_goals first | exact Or.inl rfl | exact rq_31_3 | exact rq_31_1
theorem Iw_takings {f w : Int32} (hI : Iv g) : Iv (rTakings g f w).2.2 := by
  unfold rTakings
  repeat' split
  all_goals exact hI
theorem ls_takings {f w : Int32} (hn : n < 512) (hRel : Rel n S) (hK : ∀ T, Rel (n + 1) T → K T) : w_L_takings f w S (LQ (fun S Q => w_X8_takings f w S Q) K) := by
  obtain ⟨g, hI, hC, hM, hB⟩ := hRel
  exact stepH (wc := fun S Q => w_X7_takings f w S Q) (fun Q h => cls_takings hC hI hB hn h) (fun S1 Q m9 h => mod_takings m9 hI h) rc_takings hM (fun T c m b => hK T ⟨_, Iw_takings hI, c, m, b⟩)
theorem rc_takingsAnew {f w : Int32} : (rTakings g f w).1 = 0 ∨ ((rTakings g f w).1 ∈ [3, 1] ∧ ¬ thx [3, 1] (rTakings g f w).1 = 0) := by
  unfold rTakings
  repeat' split
  all_goals first | exact Or.inl rfl | exact rq_31_3 | exact rq_31_1
theorem ls_takingsAnew {f w : Int32} (hn : n < 512) (hRel : Rel n S) (hK : ∀ T, Rel (n + 1) T → K T) : w_L_takingsAnew f w S (LQ (fun S Q => w_X8_takingsAnew f w S Q) K) := by
  obtain ⟨g, hI, hC, hM, hB⟩ := hRel
  exact stepH (wc := fun S Q => w_X7_takingsAnew f w S Q) (fun Q h => cls_takingsAnew hC hI hB hn h) (fun S1 Q m9 h => mod_takingsAnew m9 hI h) rc_takingsAnew hM (fun T c m b => hK T ⟨_, Iw_takings hI, c, m, b⟩)
theorem rc_share {f w : Int32} : (rShare g f w).1 = 0 ∨ ((rShare g f w).1 ∈ [3, 1] ∧ ¬ thx [3, 1] (rShare g f w).1 = 0) := by
  unfold rShare
  repeat' split
  all_goals first | exact Or.inl rfl | exact rq_31_3 | exact rq_31_1
theorem Iw_share {f w : Int32} (hI : Iv g) : Iv (rShare g f w).2.2 := by
  unfold rShare
  repeat' split
  all_goals exact hI
theorem ls_share {f w : Int32} (hn : n < 512) (hRel : Rel n S) (hK : ∀ T, Rel (n + 1) T → K T) : w_L_share f w S (LQ (fun S Q => w_X8_share f w S Q) K) := by
  obtain ⟨g, hI, hC, hM, hB⟩ := hRel
  exact stepH (wc := fun S Q => w_X7_share f w S Q) (fun Q h => cls_share hC hI hB hn h) (fun S1 Q m9 h => mod_share m9 hI h) rc_share hM (fun T c m b => hK T ⟨_, Iw_share hI, c, m, b⟩)
theorem rc_mustStay {f w : Int32} : (rStay g f w).1 = 0 ∨ ((rStay g f w).1 ∈ [3, 1] ∧ ¬ thx [3, 1] (rStay g f w).1 = 0) := by
  unfold rStay
  repeat' split
  all_goals first | exact Or.inl rfl | exact rq_31_3 | exact rq_31_1
theorem Iw_mustStay {f w : Int32} (hI : Iv g) : Iv (rStay g f w).2.2 := by
  unfold rStay
  repeat' split
  all_goals exact hI
theorem rz_mustStay {f w : Int32} : (rStay g f w).1 = 0 → (rStay g f w).2.1 = 0 ∨ (rStay g f w).2.1 = 1 := by
  unfold rStay
  repeat' split
  all_goals intro _; first | exact Or.inl rfl | exact Or.inr rfl
theorem ls_mustStay {f w : Int32} (hn : n < 512) (hRel : Rel n S) (hK : ∀ T, Rel (n + 1) T → K T) : w_L_mustStay f w S (LQz (fun S Q => w_X8_mustStay f w S Q) K) := by
  obtain ⟨g, hI, hC, hM, hB⟩ := hRel
  exact stepZ (wc := fun S Q => w_X7_mustStay f w S Q) rz_mustStay (fun Q h => cls_mustStay hC hI hB hn h) (fun S1 Q m9 h => mod_mustStay m9 hI h) rc_mustStay hM (fun T c m b => hK T ⟨_, Iw_mustStay hI, c, m, b⟩)
theorem rc_audit {a b : Int32} : (rAudit g a b).1 = 0 ∨ ((rAudit g a b).1 ∈ [3, 1] ∧ ¬ thx [3, 1] (rAudit g a b).1 = 0) := by
  unfold rAudit
  repeat' split
  all_goals first | exact Or.inl rfl | exact rq_31_3 | exact rq_31_1
theorem Iw_audit {a b : Int32} (hI : Iv g) : Iv (rAudit g a b).2.2 := by
  unfold rAudit
  repeat' split
  all_goals exact hI
theorem ls_audit {a b : Int32} (hn : n < 512) (hRel : Rel n S) (hK : ∀ T, Rel (n + 1) T → K T) : w_L_audit a b S (LQ (fun S Q => w_X8_audit a b S Q) K) := by
  obtain ⟨g, hI, hC, hM, hB⟩ := hRel
  exact stepH (wc := fun S Q => w_X7_audit a b S Q) (fun Q h => cls_audit hC hI hB hn h) (fun S1 Q m9 h => mod_audit m9 hI h) rc_audit hM (fun T c m b => hK T ⟨_, Iw_audit hI, c, m, b⟩)
theorem rc_all {w : Int32} : (rAll g w).1 = 0 ∨ ((rAll g w).1 ∈ [3] ∧ ¬ thx [3] (rAll g w).1 = 0) := by
  unfold rAll
  repeat' split
  all_goals first | exact Or.inl rfl | exact rq_3_3
theorem Iw_all {w : Int32} (hI : Iv g) : Iv (rAll g w).2.2 := by
  unfold rAll
  repeat' split
  all_goals exact hI
theorem ls_all {w : Int32} (hn : n < 512) (hRel : Rel n S) (hK : ∀ T, Rel (n + 1) T → K T) : w_L_all w S (LQ (fun S Q => w_X8_all w S Q) K) := by
  obtain ⟨g, hI, hC, hM, hB⟩ := hRel
  exact stepH (wc := fun S Q => w_X7_all w S Q) (fun Q h => cls_all hC hI hB hn h) (fun S1 Q m9 h => mod_all m9 hI h) rc_all hM (fun T c m b => hK T ⟨_, Iw_all hI, c, m, b⟩)
end LS
