/-! the reference's calls against g: helpers, halls, films, keys -/
def thx (l : List Nat) (k : Nat) : Int32 := if k = 0 then 0 else nI (l.idxOf k + 1)
def mPost (l : List Nat) (r : Rr) (S : Sg) (Q : Nat → Int32 → Sg → Prop) : Prop := ∀ S2 v, mC S2 r.2.2 → clf S S2 → S2.1 342 0 = thx l r.1 → (r.1 = 0 → v = r.2.1) → Q 0 v S2
theorem mP_of {l : List Nat} {r r2 : Rr} {S : Sg} {Q : Nat → Int32 → Sg → Prop} (h : mPost l r S Q) (e : r = r2) : mPost l r2 S Q := e ▸ h
def mS (S0 S : Sg) (g : Gm) : Prop := mC S g ∧ clf S0 S ∧ S.1 342 0 = 0
theorem m302 : mc 302 := by unfold mc; omega
theorem m307 : mc 307 := by unfold mc; omega
theorem m316 : mc 316 := by unfold mc; omega
theorem m321 : mc 321 := by unfold mc; omega
theorem m331 : mc 331 := by unfold mc; omega
theorem m336 : mc 336 := by unfold mc; omega
theorem m300 : mc 300 := by unfold mc; omega
theorem m301 : mc 301 := by unfold mc; omega
theorem mcA {c : Nat} (h : 103 ≤ c ∧ c ≤ 141 := by omega) : mc c := Or.inl h
theorem stm {S0 S : Sg} {g : Gm} {c i i' : Nat} {v v' : Int32} {P : Sg → Prop} (h : mS S0 S g) (hc : mc c) (hi : i = i') (hv : v = v') (k : ∀ S1, mS S0 S1 (gu g c i' v') → P S1) : ∀ S1, S1 = su S c i v → P S1 := by
  subst hi; subst hv
  rintro S1 rfl
  exact k _ ⟨mC_su h.1, clf_su h.2.1 (Or.inl hc), by rw [su_ne (Or.inl (fun e => by subst e; unfold mc at hc; omega))]; exact h.2.2⟩
theorem mEnd {l : List Nat} {v v' : Int32} {g : Gm} {S S2 : Sg} {Q : Nat → Int32 → Sg → Prop} (h : mPost l (0, v, g) S Q) (hS : mS S S2 g) (hv : v' = v) : Q 0 v' S2 := h S2 v' hS.1 hS.2.1 hS.2.2 (fun _ => hv)
theorem mThr {l : List Nat} {k : Nat} {a v : Int32} {g : Gm} {S : Sg} {Q : Nat → Int32 → Sg → Prop} (h : mPost l (k, 0, g) S Q) (hM : mC S g) (hk : k ≠ 0) (ha : thx l k = a) : Q 0 v (su S 342 0 a) :=
  h _ v (mC_th hM) (clf_su clf_rf (Or.inr rfl)) (su_at.trans ha.symm) (fun q => absurd q hk)
theorem mS0 {S : Sg} {g : Gm} (hM : mC S g) : mS S (su S 342 0 0) g := ⟨mC_th hM, clf_su clf_rf (Or.inr rfl), su_at⟩
theorem kb1 {A B C : Prop} (h : A) : ((0 : Nat) = 0 → (((1 : Int32) = 0 → B) ∧ (¬ (1 : Int32) = 0 → A))) ∧ (¬ (0 : Nat) = 0 → C) := ⟨fun _ => ⟨fun q => absurd q (by decide), fun _ => h⟩, fun q => absurd rfl q⟩
theorem kb0 {A B C : Prop} (h : B) : ((0 : Nat) = 0 → (((0 : Int32) = 0 → B) ∧ (¬ (0 : Int32) = 0 → A))) ∧ (¬ (0 : Nat) = 0 → C) := ⟨fun _ => ⟨fun _ => h, fun q => absurd rfl q⟩, fun q => absurd rfl q⟩
theorem b1 {A B : Prop} (h : A) : (((1 : Int32) = 0 → B) ∧ (¬ (1 : Int32) = 0 → A)) := ⟨fun q => absurd q (by decide), fun _ => h⟩
theorem b1' {A B : Prop} (h : A) : (((1 : Int32) = 0 → B) ∧ (¬ (1 : Int32) = 0 → A)) := b1 h
theorem b0 {A B : Prop} (h : B) : (((0 : Int32) = 0 → B) ∧ (¬ (0 : Int32) = 0 → A)) := ⟨fun _ => h, fun q => absurd rfl q⟩
theorem n302 {g : Gm} (h : I_n g) : 0 ≤ g 302 0 ∧ g 302 0 ≤ 400 := by
  obtain ⟨h1, h2, h3, h4, h5, h6, h7, h8, h9, h10, h11, h12, h13, h14, h15, h16⟩ := h; exact ⟨h5, by lia⟩
theorem n307 {g : Gm} (h : I_n g) : 0 ≤ g 307 0 ∧ g 307 0 ≤ 400 := by
  obtain ⟨h1, h2, h3, h4, h5, h6, h7, h8, h9, h10, h11, h12, h13, h14, h15, h16⟩ := h; exact ⟨h7, by lia⟩
theorem n321 {g : Gm} (h : I_n g) : 0 ≤ g 321 0 ∧ g 321 0 ≤ 400 := by
  obtain ⟨h1, h2, h3, h4, h5, h6, h7, h8, h9, h10, h11, h12, h13, h14, h15, h16⟩ := h; exact ⟨h11, by lia⟩
theorem n331 {g : Gm} (h : I_n g) : 0 ≤ g 331 0 ∧ g 331 0 ≤ 400 := by
  obtain ⟨h1, h2, h3, h4, h5, h6, h7, h8, h9, h10, h11, h12, h13, h14, h15, h16⟩ := h; exact ⟨h13, by lia⟩
theorem vpm {x y : Int32} {n : Nat} (h : x = y) (h0 : 0 ≤ y) (h1 : y < nI n) (hn : n < 2147483648 := by decide) : vp_in x n := by rw [h]; exact vp_of h0 h1 hn
