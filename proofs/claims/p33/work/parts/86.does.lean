/-! the law's 'does': a call of the class, its throws as numbers (mk86.py writes this part) -/
/-- what 'does' answers -/
def dva (r : Rr) : Int32 := if r.1 = 0 then r.2.1 else thq r.1
def dPost (n : Nat) (r : Rr) (S : Sg) (Q : Nat → Int32 → Sg → Prop) : Prop := ∀ S1, cC S1 r.2.2 → fr S S1 → Bd (n + 1) S1 → Q 0 (dva r) S1
theorem dP {n : Nat} {r : Rr} {S : Sg} {Q : Nat → Int32 → Sg → Prop} (h : dPost n r S Q) : cPost n r S (fun k v S1 => (k = 0 → Q 0 v S1) ∧ (¬ k = 0 → Q 0 (thq k) S1)) := fun S1 c f b => by
  have h1 := h S1 c f b
  unfold dva at h1
  exact ⟨fun z => by rw [if_pos z] at h1; exact h1, fun z => by rw [if_neg z] at h1; exact h1⟩
section DZ
variable {n : Nat} {g : Gm} {S : Sg} {a b c d e : Int32} {Q : Nat → Int32 → Sg → Prop}
theorem dz_0 (hC : cC S g) (hI : Iv g) (hB : Bd n S) (hn : n < 20000) (hQ : dPost n (rHall g a b) S Q) : w_L_does 0 a b c d e S Q := by
  unfold w_L_does
  exact ⟨fun _ => cls_hall hC hI hB hn (dP hQ), fun z => absurd rfl z⟩
theorem dz_2 (hC : cC S g) (hI : Iv g) (hB : Bd n S) (hn : n < 20000) (hQ : dPost n (rFilm g a b c) S Q) : w_L_does 2 a b c d e S Q := by
  unfold w_L_does
  exact ⟨fun z => absurd z (by decide), fun _ => ⟨fun z => absurd z (by decide), fun _ => ⟨fun _ => cls_film hC hI hB hn (dP hQ), fun z => absurd rfl z⟩⟩⟩
theorem dz_3 (hC : cC S g) (hI : Iv g) (hB : Bd n S) (hn : n < 20000) (hQ : dPost n (rKey g a b c d) S Q) : w_L_does 3 a b c d e S Q := by
  unfold w_L_does
  exact ⟨fun z => absurd z (by decide), fun _ => ⟨fun z => absurd z (by decide), fun _ => ⟨fun z => absurd z (by decide), fun _ => ⟨fun _ => cls_key hC hI hB hn (dP hQ), fun z => absurd rfl z⟩⟩⟩⟩
theorem dz_4 (hC : cC S g) (hI : Iv g) (hB : Bd n S) (hn : n < 20000) (hQ : dPost n (rSpread g a) S Q) : w_L_does 4 a b c d e S Q := by
  unfold w_L_does
  exact ⟨fun z => absurd z (by decide), fun _ => ⟨fun z => absurd z (by decide), fun _ => ⟨fun z => absurd z (by decide), fun _ => ⟨fun z => absurd z (by decide), fun _ => ⟨fun _ => cls_spread hC hI hB hn (dP hQ), fun z => absurd rfl z⟩⟩⟩⟩⟩
theorem dz_5 (hC : cC S g) (hI : Iv g) (hB : Bd n S) (hn : n < 20000) (hQ : dPost n (rShow g a b c) S Q) : w_L_does 5 a b c d e S Q := by
  unfold w_L_does
  exact ⟨fun z => absurd z (by decide), fun _ => ⟨fun z => absurd z (by decide), fun _ => ⟨fun z => absurd z (by decide), fun _ => ⟨fun z => absurd z (by decide), fun _ => ⟨fun z => absurd z (by decide), fun _ => ⟨fun _ => cls_show hC hI hB hn (dP hQ), fun z => absurd rfl z⟩⟩⟩⟩⟩⟩
theorem dz_6 (hC : cC S g) (hI : Iv g) (hB : Bd n S) (hn : n < 20000) (hQ : dPost n (rCancel g a) S Q) : w_L_does 6 a b c d e S Q := by
  unfold w_L_does
  exact ⟨fun z => absurd z (by decide), fun _ => ⟨fun z => absurd z (by decide), fun _ => ⟨fun z => absurd z (by decide), fun _ => ⟨fun z => absurd z (by decide), fun _ => ⟨fun z => absurd z (by decide), fun _ => ⟨fun z => absurd z (by decide), fun _ => ⟨fun _ => cls_cancel hC hI hB hn (dP hQ), fun z => absurd rfl z⟩⟩⟩⟩⟩⟩⟩
theorem dz_7 (hC : cC S g) (hI : Iv g) (hB : Bd n S) (hn : n < 20000) (hQ : dPost n (rBreaks g a) S Q) : w_L_does 7 a b c d e S Q := by
  unfold w_L_does
  exact ⟨fun z => absurd z (by decide), fun _ => ⟨fun z => absurd z (by decide), fun _ => ⟨fun z => absurd z (by decide), fun _ => ⟨fun z => absurd z (by decide), fun _ => ⟨fun z => absurd z (by decide), fun _ => ⟨fun z => absurd z (by decide), fun _ => ⟨fun z => absurd z (by decide), fun _ => ⟨fun _ => cls_breaks hC hI hB hn (dP hQ), fun z => absurd rfl z⟩⟩⟩⟩⟩⟩⟩⟩
theorem dz_8 (hC : cC S g) (hI : Iv g) (hB : Bd n S) (hn : n < 20000) (hQ : dPost n (rPass g a) S Q) : w_L_does 8 a b c d e S Q := by
  unfold w_L_does
  exact ⟨fun z => absurd z (by decide), fun _ => ⟨fun z => absurd z (by decide), fun _ => ⟨fun z => absurd z (by decide), fun _ => ⟨fun z => absurd z (by decide), fun _ => ⟨fun z => absurd z (by decide), fun _ => ⟨fun z => absurd z (by decide), fun _ => ⟨fun z => absurd z (by decide), fun _ => ⟨fun z => absurd z (by decide), fun _ => ⟨fun _ => cls_pass hC hI hB hn (dP hQ), fun z => absurd rfl z⟩⟩⟩⟩⟩⟩⟩⟩⟩
theorem dz_9 (hC : cC S g) (hI : Iv g) (hB : Bd n S) (hn : n < 20000) (hQ : dPost n (rHold g a b c d) S Q) : w_L_does 9 a b c d e S Q := by
  unfold w_L_does
  exact ⟨fun z => absurd z (by decide), fun _ => ⟨fun z => absurd z (by decide), fun _ => ⟨fun z => absurd z (by decide), fun _ => ⟨fun z => absurd z (by decide), fun _ => ⟨fun z => absurd z (by decide), fun _ => ⟨fun z => absurd z (by decide), fun _ => ⟨fun z => absurd z (by decide), fun _ => ⟨fun z => absurd z (by decide), fun _ => ⟨fun z => absurd z (by decide), fun _ => ⟨fun _ => cls_hold hC hI hB hn (dP hQ), fun z => absurd rfl z⟩⟩⟩⟩⟩⟩⟩⟩⟩⟩
theorem dz_10 (hC : cC S g) (hI : Iv g) (hB : Bd n S) (hn : n < 20000) (hQ : dPost n (rLetGo g a) S Q) : w_L_does 10 a b c d e S Q := by
  unfold w_L_does
  exact ⟨fun z => absurd z (by decide), fun _ => ⟨fun z => absurd z (by decide), fun _ => ⟨fun z => absurd z (by decide), fun _ => ⟨fun z => absurd z (by decide), fun _ => ⟨fun z => absurd z (by decide), fun _ => ⟨fun z => absurd z (by decide), fun _ => ⟨fun z => absurd z (by decide), fun _ => ⟨fun z => absurd z (by decide), fun _ => ⟨fun z => absurd z (by decide), fun _ => ⟨fun z => absurd z (by decide), fun _ => ⟨fun _ => cls_letGo hC hI hB hn (dP hQ), fun z => absurd rfl z⟩⟩⟩⟩⟩⟩⟩⟩⟩⟩⟩
theorem dz_11 (hC : cC S g) (hI : Iv g) (hB : Bd n S) (hn : n < 20000) (hQ : dPost n (rBuy g a b) S Q) : w_L_does 11 a b c d e S Q := by
  unfold w_L_does
  exact ⟨fun z => absurd z (by decide), fun _ => ⟨fun z => absurd z (by decide), fun _ => ⟨fun z => absurd z (by decide), fun _ => ⟨fun z => absurd z (by decide), fun _ => ⟨fun z => absurd z (by decide), fun _ => ⟨fun z => absurd z (by decide), fun _ => ⟨fun z => absurd z (by decide), fun _ => ⟨fun z => absurd z (by decide), fun _ => ⟨fun z => absurd z (by decide), fun _ => ⟨fun z => absurd z (by decide), fun _ => ⟨fun z => absurd z (by decide), fun _ => ⟨fun _ => cls_buy hC hI hB hn (dP hQ), fun z => absurd rfl z⟩⟩⟩⟩⟩⟩⟩⟩⟩⟩⟩⟩
theorem dz_12 (hC : cC S g) (hI : Iv g) (hB : Bd n S) (hn : n < 20000) (hQ : dPost n (rSell g a b c d) S Q) : w_L_does 12 a b c d e S Q := by
  unfold w_L_does
  exact ⟨fun z => absurd z (by decide), fun _ => ⟨fun z => absurd z (by decide), fun _ => ⟨fun z => absurd z (by decide), fun _ => ⟨fun z => absurd z (by decide), fun _ => ⟨fun z => absurd z (by decide), fun _ => ⟨fun z => absurd z (by decide), fun _ => ⟨fun z => absurd z (by decide), fun _ => ⟨fun z => absurd z (by decide), fun _ => ⟨fun z => absurd z (by decide), fun _ => ⟨fun z => absurd z (by decide), fun _ => ⟨fun z => absurd z (by decide), fun _ => ⟨fun z => absurd z (by decide), fun _ => ⟨fun _ => cls_sell hC hI hB hn (dP hQ), fun z => absurd rfl z⟩⟩⟩⟩⟩⟩⟩⟩⟩⟩⟩⟩⟩
theorem dz_13 (hC : cC S g) (hI : Iv g) (hB : Bd n S) (hn : n < 20000) (hQ : dPost n (rGroup g a b c) S Q) : w_L_does 13 a b c d e S Q := by
  unfold w_L_does
  exact ⟨fun z => absurd z (by decide), fun _ => ⟨fun z => absurd z (by decide), fun _ => ⟨fun z => absurd z (by decide), fun _ => ⟨fun z => absurd z (by decide), fun _ => ⟨fun z => absurd z (by decide), fun _ => ⟨fun z => absurd z (by decide), fun _ => ⟨fun z => absurd z (by decide), fun _ => ⟨fun z => absurd z (by decide), fun _ => ⟨fun z => absurd z (by decide), fun _ => ⟨fun z => absurd z (by decide), fun _ => ⟨fun z => absurd z (by decide), fun _ => ⟨fun z => absurd z (by decide), fun _ => ⟨fun z => absurd z (by decide), fun _ => ⟨fun _ => cls_group hC hI hB hn (dP hQ), fun z => absurd rfl z⟩⟩⟩⟩⟩⟩⟩⟩⟩⟩⟩⟩⟩⟩
theorem dz_14 (hC : cC S g) (hI : Iv g) (hB : Bd n S) (hn : n < 20000) (hQ : dPost n (rBack g a) S Q) : w_L_does 14 a b c d e S Q := by
  unfold w_L_does
  exact ⟨fun z => absurd z (by decide), fun _ => ⟨fun z => absurd z (by decide), fun _ => ⟨fun z => absurd z (by decide), fun _ => ⟨fun z => absurd z (by decide), fun _ => ⟨fun z => absurd z (by decide), fun _ => ⟨fun z => absurd z (by decide), fun _ => ⟨fun z => absurd z (by decide), fun _ => ⟨fun z => absurd z (by decide), fun _ => ⟨fun z => absurd z (by decide), fun _ => ⟨fun z => absurd z (by decide), fun _ => ⟨fun z => absurd z (by decide), fun _ => ⟨fun z => absurd z (by decide), fun _ => ⟨fun z => absurd z (by decide), fun _ => ⟨fun z => absurd z (by decide), fun _ => ⟨fun _ => cls_giveBack hC hI hB hn (dP hQ), fun z => absurd rfl z⟩⟩⟩⟩⟩⟩⟩⟩⟩⟩⟩⟩⟩⟩⟩
theorem dz_16 (hC : cC S g) (hI : Iv g) (hB : Bd n S) (hn : n < 20000) (hQ : dPost n (rFits g a b c) S Q) : w_L_does 16 a b c d e S Q := by
  unfold w_L_does
  exact ⟨fun z => absurd z (by decide), fun _ => ⟨fun z => absurd z (by decide), fun _ => ⟨fun z => absurd z (by decide), fun _ => ⟨fun z => absurd z (by decide), fun _ => ⟨fun z => absurd z (by decide), fun _ => ⟨fun z => absurd z (by decide), fun _ => ⟨fun z => absurd z (by decide), fun _ => ⟨fun z => absurd z (by decide), fun _ => ⟨fun z => absurd z (by decide), fun _ => ⟨fun z => absurd z (by decide), fun _ => ⟨fun z => absurd z (by decide), fun _ => ⟨fun z => absurd z (by decide), fun _ => ⟨fun z => absurd z (by decide), fun _ => ⟨fun z => absurd z (by decide), fun _ => ⟨fun z => absurd z (by decide), fun _ => ⟨fun z => absurd z (by decide), fun _ => ⟨fun _ => cls_fits hC hI hB hn (dP hQ), fun z => absurd rfl z⟩⟩⟩⟩⟩⟩⟩⟩⟩⟩⟩⟩⟩⟩⟩⟩⟩
theorem dz_17 (hC : cC S g) (hI : Iv g) (hB : Bd n S) (hn : n < 20000) (hQ : dPost n (rFirst g a b c) S Q) : w_L_does 17 a b c d e S Q := by
  unfold w_L_does
  exact ⟨fun z => absurd z (by decide), fun _ => ⟨fun z => absurd z (by decide), fun _ => ⟨fun z => absurd z (by decide), fun _ => ⟨fun z => absurd z (by decide), fun _ => ⟨fun z => absurd z (by decide), fun _ => ⟨fun z => absurd z (by decide), fun _ => ⟨fun z => absurd z (by decide), fun _ => ⟨fun z => absurd z (by decide), fun _ => ⟨fun z => absurd z (by decide), fun _ => ⟨fun z => absurd z (by decide), fun _ => ⟨fun z => absurd z (by decide), fun _ => ⟨fun z => absurd z (by decide), fun _ => ⟨fun z => absurd z (by decide), fun _ => ⟨fun z => absurd z (by decide), fun _ => ⟨fun z => absurd z (by decide), fun _ => ⟨fun z => absurd z (by decide), fun _ => ⟨fun z => absurd z (by decide), fun _ => ⟨fun _ => cls_first hC hI hB hn (dP hQ), fun z => absurd rfl z⟩⟩⟩⟩⟩⟩⟩⟩⟩⟩⟩⟩⟩⟩⟩⟩⟩⟩
theorem dz_18 (hC : cC S g) (hI : Iv g) (hB : Bd n S) (hn : n < 20000) (hQ : dPost n (rSeat g a b c) S Q) : w_L_does 18 a b c d e S Q := by
  unfold w_L_does
  exact ⟨fun z => absurd z (by decide), fun _ => ⟨fun z => absurd z (by decide), fun _ => ⟨fun z => absurd z (by decide), fun _ => ⟨fun z => absurd z (by decide), fun _ => ⟨fun z => absurd z (by decide), fun _ => ⟨fun z => absurd z (by decide), fun _ => ⟨fun z => absurd z (by decide), fun _ => ⟨fun z => absurd z (by decide), fun _ => ⟨fun z => absurd z (by decide), fun _ => ⟨fun z => absurd z (by decide), fun _ => ⟨fun z => absurd z (by decide), fun _ => ⟨fun z => absurd z (by decide), fun _ => ⟨fun z => absurd z (by decide), fun _ => ⟨fun z => absurd z (by decide), fun _ => ⟨fun z => absurd z (by decide), fun _ => ⟨fun z => absurd z (by decide), fun _ => ⟨fun z => absurd z (by decide), fun _ => ⟨fun z => absurd z (by decide), fun _ => ⟨fun _ => cls_seat hC hI hB hn (dP hQ), fun z => absurd rfl z⟩⟩⟩⟩⟩⟩⟩⟩⟩⟩⟩⟩⟩⟩⟩⟩⟩⟩⟩
theorem dz_19 (hC : cC S g) (hI : Iv g) (hB : Bd n S) (hn : n < 20000) (hQ : dPost n (rPrice g a b) S Q) : w_L_does 19 a b c d e S Q := by
  unfold w_L_does
  exact ⟨fun z => absurd z (by decide), fun _ => ⟨fun z => absurd z (by decide), fun _ => ⟨fun z => absurd z (by decide), fun _ => ⟨fun z => absurd z (by decide), fun _ => ⟨fun z => absurd z (by decide), fun _ => ⟨fun z => absurd z (by decide), fun _ => ⟨fun z => absurd z (by decide), fun _ => ⟨fun z => absurd z (by decide), fun _ => ⟨fun z => absurd z (by decide), fun _ => ⟨fun z => absurd z (by decide), fun _ => ⟨fun z => absurd z (by decide), fun _ => ⟨fun z => absurd z (by decide), fun _ => ⟨fun z => absurd z (by decide), fun _ => ⟨fun z => absurd z (by decide), fun _ => ⟨fun z => absurd z (by decide), fun _ => ⟨fun z => absurd z (by decide), fun _ => ⟨fun z => absurd z (by decide), fun _ => ⟨fun z => absurd z (by decide), fun _ => ⟨fun z => absurd z (by decide), fun _ => ⟨fun _ => cls_price hC hI hB hn (dP hQ), fun z => absurd rfl z⟩⟩⟩⟩⟩⟩⟩⟩⟩⟩⟩⟩⟩⟩⟩⟩⟩⟩⟩⟩
theorem dz_20 (hC : cC S g) (hI : Iv g) (hB : Bd n S) (hn : n < 20000) (hQ : dPost n (rAudit g a b) S Q) : w_L_does 20 a b c d e S Q := by
  unfold w_L_does
  exact ⟨fun z => absurd z (by decide), fun _ => ⟨fun z => absurd z (by decide), fun _ => ⟨fun z => absurd z (by decide), fun _ => ⟨fun z => absurd z (by decide), fun _ => ⟨fun z => absurd z (by decide), fun _ => ⟨fun z => absurd z (by decide), fun _ => ⟨fun z => absurd z (by decide), fun _ => ⟨fun z => absurd z (by decide), fun _ => ⟨fun z => absurd z (by decide), fun _ => ⟨fun z => absurd z (by decide), fun _ => ⟨fun z => absurd z (by decide), fun _ => ⟨fun z => absurd z (by decide), fun _ => ⟨fun z => absurd z (by decide), fun _ => ⟨fun z => absurd z (by decide), fun _ => ⟨fun z => absurd z (by decide), fun _ => ⟨fun z => absurd z (by decide), fun _ => ⟨fun z => absurd z (by decide), fun _ => ⟨fun z => absurd z (by decide), fun _ => ⟨fun z => absurd z (by decide), fun _ => ⟨fun z => absurd z (by decide), fun _ => cls_audit hC hI hB hn (dP hQ)⟩⟩⟩⟩⟩⟩⟩⟩⟩⟩⟩⟩⟩⟩⟩⟩⟩⟩⟩⟩
theorem dz_1 (hc : c = 0 ∨ c = 1) (hC : cC S g) (hI : Iv g) (hB : Bd n S) (hn : n < 20000) (hQ : dPost n (rLamp g a b c) S Q) : w_L_does 1 a b c d e S Q := by
  unfold w_L_does w_L_does_32
  exact ⟨fun z => absurd z (by decide), fun _ => ⟨fun _ => ⟨fun z => by subst z; exact cls_lamp hC hI hB hn (dP hQ), fun z => by rw [hc.resolve_right z] at hQ hc; exact cls_lamp hC hI hB hn (dP hQ)⟩, fun z => absurd rfl z⟩⟩
theorem dz_15 (hc : c = 0 ∨ c = 1) (hC : cC S g) (hI : Iv g) (hB : Bd n S) (hn : n < 20000) (hQ : dPost n (rJoin g a b c) S Q) : w_L_does 15 a b c d e S Q := by
  unfold w_L_does w_L_does_261
  exact ⟨fun z => absurd z (by decide), fun _ => ⟨fun z => absurd z (by decide), fun _ => ⟨fun z => absurd z (by decide), fun _ => ⟨fun z => absurd z (by decide), fun _ => ⟨fun z => absurd z (by decide), fun _ => ⟨fun z => absurd z (by decide), fun _ => ⟨fun z => absurd z (by decide), fun _ => ⟨fun z => absurd z (by decide), fun _ => ⟨fun z => absurd z (by decide), fun _ => ⟨fun z => absurd z (by decide), fun _ => ⟨fun z => absurd z (by decide), fun _ => ⟨fun z => absurd z (by decide), fun _ => ⟨fun z => absurd z (by decide), fun _ => ⟨fun z => absurd z (by decide), fun _ => ⟨fun z => absurd z (by decide), fun _ => ⟨fun _ => ⟨fun z => by subst z; exact cls_join hc hC hI hB hn (dP hQ), fun z => by rw [hc.resolve_right z] at hQ hc; exact cls_join hc hC hI hB hn (dP hQ)⟩, fun z => absurd rfl z⟩⟩⟩⟩⟩⟩⟩⟩⟩⟩⟩⟩⟩⟩⟩⟩
end DZ
/-- the class, the law's arrays and g say the same; n calls were made -/
def RA (n C : Nat) (g : Gm) (S : Sg) : Prop := cC S g ∧ Iv g ∧ LR S g ∧ LB C g ∧ Bd n S
section RAS
variable {n C C1 : Nat} {g g1 : Gm} {S S1 T : Sg} {Q : Nat → Int32 → Sg → Prop}
theorem RA_up (h : RA n C g S) : RA (n + 1) C g S := ⟨h.1, h.2.1, h.2.2.1, h.2.2.2.1, bd_up h.2.2.2.2⟩
theorem RA_le {m : Nat} (hm : n ≤ m) (h : RA n C g S) : RA m C g S := by
  obtain ⟨d, rfl⟩ := Nat.exists_eq_add_of_le hm
  induction d with
  | zero => exact h
  | succ d ih => exact RA_up (ih (Nat.le_add_right _ _))
theorem bd_clf (hB : Bd n S) (h : clf S S1) : Bd n S1 := bd_same hB h.2 (fun i => h.1 12 i (by unfold mc; omega))
theorem lS_rf (h : RA n C g S) : lS S S g := ⟨h.2.2.1, clf_rf⟩
theorem RA_c (h : RA n C g S) (hS : lS S S1 g1) : cC S1 g := cC_clf h.1 hS.2
theorem RA_b (h : RA n C g S) (hS : lS S S1 g1) : Bd n S1 := bd_clf h.2.2.2.2 hS.2
/-- the law has made its own of the call already; the class follows -/
theorem RA_go {r : Rr} (hS : lS S S1 g1) (e : r.2.2 = g1) (hI : Iv g1) (hB : LB C1 g1) {v : Int32} (ev : dva r = v) (q : ∀ S2, RA (n + 1) C1 g1 S2 → Q 0 v S2) : dPost n r S1 Q := fun S2 c f b => by
  rw [e] at c
  rw [ev]
  exact q S2 ⟨c, hI, LR_fr f hS.1, hB, b⟩
/-- asked, nothing changed -/
theorem RA_ask {r : Rr} (h : RA n C g S) (e : r.2.2 = g) {v : Int32} (ec : r.1 = 0) (ev : r.2.1 = v) (q : ∀ S2, RA (n + 1) C g S2 → Q 0 v S2) : cPost n r S (fun k v S1 => (k = 0 → Q 0 v S1) ∧ (¬ k = 0 → Q k 0 S1)) := fun S2 c f b => by
  rw [e] at c
  rw [ec, ev]
  exact kz (q S2 ⟨c, h.2.1, LR_fr f h.2.2.1, h.2.2.2.1, b⟩)
end RAS
theorem dva_0 {x : Int32} {g : Gm} : dva (0, x, g) = x := rfl
theorem dva_1 {x : Int32} {g : Gm} : dva (1, x, g) = -2000000 := rfl
theorem dva_2 {x : Int32} {g : Gm} : dva (2, x, g) = -1000000 := rfl
theorem dva_3 {x : Int32} {g : Gm} : dva (3, x, g) = -3000000 := rfl
