/-! the reference's calls against g: helpers, halls, films, keys -/
def thx (l : List Nat) (k : Nat) : Int32 := if k = 0 then 0 else nI (l.idxOf k + 1)
def mPost (l : List Nat) (r : Rr) (S : Sg) (Q : Nat → Int32 → Sg → Prop) : Prop := ∀ S2 v, mC S2 r.2.2 → clf S S2 → S2.1 342 0 = thx l r.1 → (r.1 = 0 → v = r.2.1) → Q 0 v S2
theorem mP_of {l : List Nat} {r r2 : Rr} {S : Sg} {Q : Nat → Int32 → Sg → Prop} (h : mPost l r S Q) (e : r = r2) : mPost l r2 S Q := e ▸ h
def mS (S0 S : Sg) (g : Gm) : Prop := mC S g ∧ clf S0 S ∧ S.1 342 0 = 0
theorem m302 : mc 302 := by unfold mc; omega
theorem m307 : mc 307 := by unfold mc; omega
theorem m316 : mc 316 := by unfold mc; omega
theorem m321 : mc 321 := by unfold mc; omega
theorem m331 : mc 331 := by unfold mc; omega
theorem m336 : mc 336 := by unfold mc; omega
theorem m300 : mc 300 := by unfold mc; omega
theorem m301 : mc 301 := by unfold mc; omega
theorem mcA {c : Nat} (h : 103 ≤ c ∧ c ≤ 141 := by omega) : mc c := Or.inl h
theorem stm {S0 S : Sg} {g : Gm} {c i i' : Nat} {v v' : Int32} {P : Sg → Prop} (h : mS S0 S g) (hc : mc c) (hi : i = i') (hv : v = v') (k : ∀ S1, mS S0 S1 (gu g c i' v') → P S1) : ∀ S1, S1 = su S c i v → P S1 := by
  subst hi; subst hv
  rintro S1 rfl
  exact k _ ⟨mC_su h.1, clf_su h.2.1 (Or.inl hc), by rw [su_ne (Or.inl (fun e => by subst e; unfold mc at hc; omega))]; exact h.2.2⟩
theorem mEnd {l : List Nat} {v v' : Int32} {g : Gm} {S S2 : Sg} {Q : Nat → Int32 → Sg → Prop} (h : mPost l (0, v, g) S Q) (hS : mS S S2 g) (hv : v' = v) : Q 0 v' S2 := h S2 v' hS.1 hS.2.1 hS.2.2 (fun _ => hv)
theorem mThr {l : List Nat} {k : Nat} {a v : Int32} {g : Gm} {S : Sg} {Q : Nat → Int32 → Sg → Prop} (h : mPost l (k, 0, g) S Q) (hM : mC S g) (hk : k ≠ 0) (ha : thx l k = a) : Q 0 v (su S 342 0 a) :=
  h _ v (mC_th hM) (clf_su clf_rf (Or.inr rfl)) (su_at.trans ha.symm) (fun q => absurd q hk)
theorem mGo {A : Sg → Prop} {S : Sg} {Q : Nat → Int32 → Sg → Prop} (h : A (su S 342 0 0)) : w_X8_fails 0 S (fun k v S1 => (k = 0 → ((v = 0 → A S1) ∧ (¬ v = 0 → Q 0 0 S1))) ∧ (¬ k = 0 → Q k 0 S1)) := by
  unfold w_X8_fails
  rintro S1 rfl
  exact ⟨fun _ => kz ⟨fun _ => h, fun q => absurd rfl q⟩, fun q => absurd (by decide) q⟩
theorem mFail {l : List Nat} {k : Nat} {a : Int32} {A : Sg → Prop} {g : Gm} {S : Sg} {Q : Nat → Int32 → Sg → Prop} (h : mPost l (k, 0, g) S Q) (hM : mC S g) (hk : k ≠ 0) (ha : thx l k = a) (h0 : ¬ a ≤ 0) : w_X8_fails a S (fun k v S1 => (k = 0 → ((v = 0 → A S1) ∧ (¬ v = 0 → Q 0 0 S1))) ∧ (¬ k = 0 → Q k 0 S1)) := by
  unfold w_X8_fails
  rintro S1 rfl
  exact ⟨fun q => absurd q h0, fun _ => kz ⟨fun q => absurd q (by decide), fun _ => mThr h hM hk ha⟩⟩
theorem mS0 {S : Sg} {g : Gm} (hM : mC S g) : mS S (su S 342 0 0) g := ⟨mC_th hM, clf_su clf_rf (Or.inr rfl), su_at⟩
theorem kb1 {A B C : Prop} (h : A) : ((0 : Nat) = 0 → (((1 : Int32) = 0 → B) ∧ (¬ (1 : Int32) = 0 → A))) ∧ (¬ (0 : Nat) = 0 → C) := ⟨fun _ => ⟨fun q => absurd q (by decide), fun _ => h⟩, fun q => absurd rfl q⟩
theorem kb0 {A B C : Prop} (h : B) : ((0 : Nat) = 0 → (((0 : Int32) = 0 → B) ∧ (¬ (0 : Int32) = 0 → A))) ∧ (¬ (0 : Nat) = 0 → C) := ⟨fun _ => ⟨fun _ => h, fun q => absurd rfl q⟩, fun q => absurd rfl q⟩
theorem b1 {A B : Prop} (h : A) : (((1 : Int32) = 0 → B) ∧ (¬ (1 : Int32) = 0 → A)) := ⟨fun q => absurd q (by decide), fun _ => h⟩
theorem b1' {A B : Prop} (h : A) : (((1 : Int32) = 0 → B) ∧ (¬ (1 : Int32) = 0 → A)) := b1 h
theorem b0 {A B : Prop} (h : B) : (((0 : Int32) = 0 → B) ∧ (¬ (0 : Int32) = 0 → A)) := ⟨fun _ => h, fun q => absurd rfl q⟩
theorem isIn_ok {a lo hi : Int32} {S : Sg} {Q : Nat → Int32 → Sg → Prop} (h1 : inr a lo hi → Q 0 1 S) (h0 : ¬ inr a lo hi → Q 0 0 S) : w_X8_isIn a lo hi S Q := by
  unfold w_X8_isIn
  exact ⟨fun h => h0 (fun q => by have := q.1; lia), fun h => ⟨fun h2 => h0 (fun q => by have := q.2; lia), fun h2 => h1 ⟨by lia, by lia⟩⟩⟩
theorem isX_ok {c : Nat} {a : Int32} {S : Sg} {g : Gm} {Q : Nat → Int32 → Sg → Prop} (hM : S.1 c 0 = g c 0) (hn : 0 ≤ g c 0 ∧ g c 0 ≤ 400) (h1 : isX g c a → Q 0 1 S) (h0 : ¬ isX g c a → Q 0 0 S) : w_X8_isIn a 0 (S.1 c 0 - 1) S (fun k3 v2 S1 => (k3 = 0 → ((v2 = 0 ∨ v2 = 1) ∧ Q 0 v2 S1)) ∧ (¬ k3 = 0 → Q k3 0 S1)) := by
  rw [hM]
  exact isIn_ok (fun r => kz ⟨Or.inr rfl, h1 ⟨r.1, by have := r.2; lia⟩⟩) (fun r => kz ⟨Or.inl rfl, h0 (fun q => r ⟨q.1, by have := q.2; lia⟩)⟩)
theorem n302 {g : Gm} (h : I_n g) : 0 ≤ g 302 0 ∧ g 302 0 ≤ 400 := by
  obtain ⟨h1, h2, h3, h4, h5, h6, h7, h8, h9, h10, h11, h12, h13, h14, h15, h16⟩ := h; exact ⟨h5, by lia⟩
theorem n307 {g : Gm} (h : I_n g) : 0 ≤ g 307 0 ∧ g 307 0 ≤ 400 := by
  obtain ⟨h1, h2, h3, h4, h5, h6, h7, h8, h9, h10, h11, h12, h13, h14, h15, h16⟩ := h; exact ⟨h7, by lia⟩
theorem n321 {g : Gm} (h : I_n g) : 0 ≤ g 321 0 ∧ g 321 0 ≤ 400 := by
  obtain ⟨h1, h2, h3, h4, h5, h6, h7, h8, h9, h10, h11, h12, h13, h14, h15, h16⟩ := h; exact ⟨h11, by lia⟩
theorem n331 {g : Gm} (h : I_n g) : 0 ≤ g 331 0 ∧ g 331 0 ≤ 400 := by
  obtain ⟨h1, h2, h3, h4, h5, h6, h7, h8, h9, h10, h11, h12, h13, h14, h15, h16⟩ := h; exact ⟨h13, by lia⟩
theorem isHall_ok {a : Int32} {S : Sg} {g : Gm} {Q : Nat → Int32 → Sg → Prop} (hM : mC S g) (hI : I_n g) (h1 : isX g 302 a → Q 0 1 S) (h0 : ¬ isX g 302 a → Q 0 0 S) : w_X8_isHall a S Q := by
  unfold w_X8_isHall; exact isX_ok (hM _ _ m302) (n302 hI) h1 h0
theorem isFilm_ok {a : Int32} {S : Sg} {g : Gm} {Q : Nat → Int32 → Sg → Prop} (hM : mC S g) (hI : I_n g) (h1 : isX g 307 a → Q 0 1 S) (h0 : ¬ isX g 307 a → Q 0 0 S) : w_X8_isFilm a S Q := by
  unfold w_X8_isFilm; exact isX_ok (hM _ _ m307) (n307 hI) h1 h0
theorem isShow_ok {a : Int32} {S : Sg} {g : Gm} {Q : Nat → Int32 → Sg → Prop} (hM : mC S g) (hI : I_n g) (h1 : isX g 321 a → Q 0 1 S) (h0 : ¬ isX g 321 a → Q 0 0 S) : w_X8_isShow a S Q := by
  unfold w_X8_isShow; exact isX_ok (hM _ _ m321) (n321 hI) h1 h0
theorem isHold_ok {a : Int32} {S : Sg} {g : Gm} {Q : Nat → Int32 → Sg → Prop} (hM : mC S g) (hI : I_n g) (h1 : isX g 331 a → Q 0 1 S) (h0 : ¬ isX g 331 a → Q 0 0 S) : w_X8_isHold a S Q := by
  unfold w_X8_isHold; exact isX_ok (hM _ _ m331) (n331 hI) h1 h0
theorem isTicket_ok {a : Int32} {S : Sg} {g : Gm} {Q : Nat → Int32 → Sg → Prop} (hM : mC S g) (hI : I_n g) (h1 : isX g 336 a → Q 0 1 S) (h0 : ¬ isX g 336 a → Q 0 0 S) : w_X8_isTicket a S Q := by
  unfold w_X8_isTicket; exact isX_ok (hM _ _ m336) (n336 hI) h1 h0
theorem isAge_ok {a : Int32} {S : Sg} {Q : Nat → Int32 → Sg → Prop} (h1 : inr a 0 120 → Q 0 1 S) (h0 : ¬ inr a 0 120 → Q 0 0 S) : w_X8_isAge a S Q := by
  unfold w_X8_isAge; exact isIn_ok (fun r => kz ⟨Or.inr rfl, h1 r⟩) (fun r => kz ⟨Or.inl rfl, h0 r⟩)
theorem vpm {x y : Int32} {n : Nat} (h : x = y) (h0 : 0 ≤ y) (h1 : y < nI n) (hn : n < 2147483648 := by decide) : vp_in x n := by rw [h]; exact vp_of h0 h1 hn
theorem mod_hall {g : Gm} {S : Sg} {a b : Int32} {Q : Nat → Int32 → Sg → Prop} (hM : mC S g) (hI : Iv g) (hQ : mPost [1, 2] (rHall g a b) S Q) : w_X8_hall a b S Q := by
  obtain ⟨-, -, -, -, n1, n2, -⟩ := i_n hI
  unfold w_X8_hall w_X8_hall_21 w_X8_hall_38
  have bad : ¬ (inr a 1 6 ∧ inr b 1 8) → mPost [1, 2] (1, 0, g) S Q := fun h => mP_of hQ (if_neg h)
  refine isIn_ok (fun r1 => kb1 ?_) (fun r1 => kb0 (mFail (bad (fun q => r1 q.1)) hM (by decide) rfl (by decide)))
  refine isIn_ok (fun r2 => kb1 ?_) (fun r2 => kb0 (mFail (bad (fun q => r2 q.2)) hM (by decide) rfl (by decide)))
  rw [hM _ _ m302]
  refine ⟨fun r3 => mFail (mP_of hQ (by unfold rHall; rw [if_pos ⟨r1, r2⟩, if_pos r3])) hM (by decide) rfl (by decide), fun r3 => mGo ?_⟩
  have hQ := mP_of hQ (show rHall g a b = (0, g 302 0, gHall g a b) by unfold rHall; rw [if_pos ⟨r1, r2⟩, if_neg r3])
  have h0 := mS0 hM
  have l4 : g 302 0 < nI 4 := by show g 302 0 < 4; lia
  refine ⟨vpm (h0.1 _ _ m302) n1 l4, stm h0 mcA (congrArg nt (h0.1 _ _ m302)) rfl fun S1 h1 => ⟨vpm (h1.1 _ _ m302) n1 l4, stm h1 mcA (congrArg nt (h1.1 _ _ m302)) rfl fun S2 h2 => ⟨vpm (h2.1 _ _ m302) n1 l4, stm h2 mcA (congrArg nt (h2.1 _ _ m302)) rfl fun S3 h3 => stm h3 m302 rfl (by rw [h3.1 _ _ m302]) fun S4 h4 => ?_⟩⟩⟩
  exact mEnd hQ h4 (by rw [h4.1 _ _ m302]; show g 302 0 + 1 - 1 = g 302 0; lia)
theorem mod_film {g : Gm} {S : Sg} {a b d : Int32} {Q : Nat → Int32 → Sg → Prop} (hM : mC S g) (hI : Iv g) (hQ : mPost [1, 2] (rFilm g a b d) S Q) : w_X8_film a b d S Q := by
  obtain ⟨-, -, -, -, -, -, n1, n2, -⟩ := i_n hI
  unfold w_X8_film w_X8_film_37 w_X8_film_38 w_X8_film_64
  have bad : ¬ (inr a 30 240 ∧ inr b 0 18 ∧ inr d 1 999) → mPost [1, 2] (1, 0, g) S Q := fun h => mP_of hQ (if_neg h)
  refine isIn_ok (fun r1 => kb1 ?_) (fun r1 => kb0 (b0 (mFail (bad (fun q => r1 q.1)) hM (by decide) rfl (by decide))))
  refine isIn_ok (fun r2 => kb1 ?_) (fun r2 => kb0 (b0 (mFail (bad (fun q => r2 q.2.1)) hM (by decide) rfl (by decide))))
  refine isIn_ok (fun r3 => kb1 (b1 ?_)) (fun r2 => kb0 (b0 (mFail (bad (fun q => r2 q.2.2)) hM (by decide) rfl (by decide))))
  rw [hM _ _ m307]
  refine ⟨fun r4 => mFail (mP_of hQ (by unfold rFilm; rw [if_pos ⟨r1, r2, r3⟩, if_pos r4])) hM (by decide) rfl (by decide), fun r4 => mGo ?_⟩
  have hQ := mP_of hQ (show rFilm g a b d = (0, g 307 0, gFilm g a b d) by unfold rFilm; rw [if_pos ⟨r1, r2, r3⟩, if_neg r4])
  have h0 := mS0 hM
  have l4 : g 307 0 < nI 8 := by show g 307 0 < 8; lia
  refine ⟨vpm (h0.1 _ _ m307) n1 l4, stm h0 mcA (congrArg nt (h0.1 _ _ m307)) rfl fun S1 h1 => ⟨vpm (h1.1 _ _ m307) n1 l4, stm h1 mcA (congrArg nt (h1.1 _ _ m307)) rfl fun S2 h2 => ⟨vpm (h2.1 _ _ m307) n1 l4, stm h2 mcA (congrArg nt (h2.1 _ _ m307)) rfl fun S3 h3 => ⟨vpm (h3.1 _ _ m307) n1 l4, stm h3 mcA (congrArg nt (h3.1 _ _ m307)) rfl fun S4 h4 => ⟨vpm (h4.1 _ _ m307) n1 l4, stm h4 mcA (congrArg nt (h4.1 _ _ m307)) rfl fun S5 h5 => stm h5 m307 rfl (by rw [h5.1 _ _ m307]) fun S6 h6 => ?_⟩⟩⟩⟩⟩
  exact mEnd hQ h6 (by rw [h6.1 _ _ m307]; show g 307 0 + 1 - 1 = g 307 0; lia)
theorem mod_key {g : Gm} {S : Sg} {f h a b : Int32} {Q : Nat → Int32 → Sg → Prop} (hM : mC S g) (hI : Iv g) (hQ : mPost [3, 1, 2] (rKey g f h a b) S Q) : w_X8_key f h a b S Q := by
  have hn := i_n hI
  obtain ⟨-, -, -, -, -, -, -, -, n1, n2, -⟩ := i_n hI
  unfold w_X8_key w_X8_key_20 w_X8_key_21 w_X8_key_50 w_X8_key_51 w_X8_key_86
  have bad : ¬ (isX g 307 f ∧ isX g 302 h) → mPost [3, 1, 2] (3, 0, g) S Q := fun h => mP_of hQ (if_neg h)
  refine isFilm_ok hM hn (fun r1 => kb1 ?_) (fun r1 => kb0 (isIn_ok (fun _ => kb1 (isIn_ok (fun _ => kb1 (b0 (mFail (bad (fun q => r1 q.1)) hM (by decide) rfl (by decide)))) (fun _ => kb0 (b0 (mFail (bad (fun q => r1 q.1)) hM (by decide) rfl (by decide)))))) (fun _ => kb0 (b0 (mFail (bad (fun q => r1 q.1)) hM (by decide) rfl (by decide))))))
  refine isHall_ok hM hn (fun r2 => kb1 ?_) (fun r1 => kb0 (isIn_ok (fun _ => kb1 (isIn_ok (fun _ => kb1 (b0 (mFail (bad (fun q => r1 q.2)) hM (by decide) rfl (by decide)))) (fun _ => kb0 (b0 (mFail (bad (fun q => r1 q.2)) hM (by decide) rfl (by decide)))))) (fun _ => kb0 (b0 (mFail (bad (fun q => r1 q.2)) hM (by decide) rfl (by decide))))))
  have bad2 : ¬ (inr a 0 100000 ∧ inr b (a + 1) 110000) → mPost [3, 1, 2] (1, 0, g) S Q := fun h => mP_of hQ (by unfold rKey; rw [if_pos ⟨r1, r2⟩, if_neg h])
  refine isIn_ok (fun r3 => kb1 ?_) (fun r => kb0 (b1 (b0 (mFail (bad2 (fun q => r q.1)) hM (by decide) rfl (by decide)))))
  refine isIn_ok (fun r4 => kb1 (b1 (b1 ?_))) (fun r => kb0 (b1 (b0 (mFail (bad2 (fun q => r q.2)) hM (by decide) rfl (by decide)))))
  rw [hM _ _ m316]
  refine ⟨fun r5 => mFail (mP_of hQ (by unfold rKey; rw [if_pos ⟨r1, r2⟩, if_pos ⟨r3, r4⟩, if_pos r5])) hM (by decide) rfl (by decide), fun r5 => mGo ?_⟩
  have hQ := mP_of hQ (show rKey g f h a b = (0, g 316 0, gKey g f h a b) by unfold rKey; rw [if_pos ⟨r1, r2⟩, if_pos ⟨r3, r4⟩, if_neg r5])
  have h0 := mS0 hM
  have l4 : g 316 0 < nI 30 := by show g 316 0 < 30; lia
  refine ⟨vpm (h0.1 _ _ m316) n1 l4, stm h0 mcA (congrArg nt (h0.1 _ _ m316)) rfl fun S1 h1 => ⟨vpm (h1.1 _ _ m316) n1 l4, stm h1 mcA (congrArg nt (h1.1 _ _ m316)) rfl fun S2 h2 => ⟨vpm (h2.1 _ _ m316) n1 l4, stm h2 mcA (congrArg nt (h2.1 _ _ m316)) rfl fun S3 h3 => ⟨vpm (h3.1 _ _ m316) n1 l4, stm h3 mcA (congrArg nt (h3.1 _ _ m316)) rfl fun S4 h4 => stm h4 m316 rfl (by rw [h4.1 _ _ m316]) fun S6 h6 => ?_⟩⟩⟩⟩
  exact mEnd hQ h6 (by rw [h6.1 _ _ m316]; show g 316 0 + 1 - 1 = g 316 0; lia)
theorem mod_lamp {g : Gm} {S : Sg} {h m x : Int32} {Q : Nat → Int32 → Sg → Prop} (hM : mC S g) (hI : Iv g) (hQ : mPost [3, 1] (rLamp g h m x) S Q) : w_X8_lamp h m x S Q := by
  have hn := i_n hI
  obtain ⟨-, -, -, -, n1, n2, -⟩ := i_n hI
  unfold w_X8_lamp w_X8_lamp_28 w_X8_lamp_66
  refine isHall_ok hM hn (fun r1 => kb1 ?_) (fun r1 => kb0 (mFail (mP_of hQ (if_neg r1)) hM (by decide) rfl (by decide)))
  refine isIn_ok (fun r2 => kb1 (mGo ?_)) (fun r2 => kb0 (mFail (mP_of hQ (by unfold rLamp; rw [if_pos r1, if_neg r2])) hM (by decide) rfl (by decide)))
  have hQ := mP_of hQ (show rLamp g h m x = (0, g 105 (nt h), gLamp g h m x) by unfold rLamp; rw [if_pos r1, if_pos r2])
  have h0 := mS0 hM
  have l4 : vp_in h 4 := vp_of r1.1 (by show h < 4; have := r1.2; lia) (by decide)
  refine ⟨l4, ?_⟩
  rintro v5 rfl
  have e : (su S 342 0 0).1 105 (nt h) = g 105 (nt h) := h0.1 _ _ mcA
  rw [e]
  refine ⟨l4, stm h0 mcA rfl rfl fun S1 h1 => ⟨fun r3 => ⟨l4, stm h1 mcA rfl rfl fun S2 h2 => ?_⟩, fun r3 => ⟨l4, stm h1 mcA rfl rfl fun S2 h2 => ?_⟩⟩⟩
  · exact mEnd hQ (by unfold gLamp; rw [if_pos r3]; exact h2) rfl
  · exact mEnd hQ (by unfold gLamp; rw [if_neg r3]; exact h2) rfl
theorem mod_terms {g : Gm} {S : Sg} {f a b c d e : Int32} {Q : Nat → Int32 → Sg → Prop} (hM : mC S g) (hI : Iv g) (hQ : mPost [3, 1] (rTerms g f a b c d e) S Q) : w_X8_terms f a b c d e S Q := by
  have hn := i_n hI
  obtain ⟨-, -, -, -, -, -, n1, n2, -⟩ := i_n hI
  unfold w_X8_terms w_X8_terms_57 w_X8_terms_58 w_X8_terms_83
  have bad : ¬ (inr a 0 100 ∧ inr b 0 100 ∧ inr c 0 100 ∧ inr d 0 100000 ∧ inr e 0 100000) → ∀ {A : Sg → Prop} {B C : Prop}, w_X8_isFilm f S (fun k11 v10 S9 => (k11 = 0 → ((v10 = 0 → w_X8_fails 1 S9 (fun k v S1 => (k = 0 → ((v = 0 → A S1) ∧ (¬ v = 0 → Q 0 0 S1))) ∧ (¬ k = 0 → Q k 0 S1))) ∧ (¬ v10 = 0 → (((0 : Int32) = 0 → w_X8_fails 2 S9 (fun k v S1 => (k = 0 → ((v = 0 → A S1) ∧ (¬ v = 0 → Q 0 0 S1))) ∧ (¬ k = 0 → Q k 0 S1))) ∧ (¬ (0 : Int32) = 0 → w_X8_fails 0 S9 (fun k v S1 => (k = 0 → ((v = 0 → A S1) ∧ (¬ v = 0 → Q 0 0 S1))) ∧ (¬ k = 0 → Q k 0 S1))))))) ∧ (¬ k11 = 0 → Q k11 0 S9)) := fun q A _ _ => isFilm_ok hM hn (fun r => kb1 (b0 (mFail (mP_of hQ (by unfold rTerms; rw [if_pos r, if_neg q])) hM (by decide) rfl (by decide)))) (fun r => kb0 (mFail (mP_of hQ (if_neg r)) hM (by decide) rfl (by decide)))
  refine isIn_ok (fun r2 => kb1 ?_) (fun r2 => kb0 (bad (B := True) (C := True) (fun q => r2 q.1)))
  refine isIn_ok (fun r3 => kb1 ?_) (fun r2 => kb0 (bad (B := True) (C := True) (fun q => r2 q.2.1)))
  refine isIn_ok (fun r4 => kb1 ?_) (fun r2 => kb0 (bad (B := True) (C := True) (fun q => r2 q.2.2.1)))
  refine isIn_ok (fun r5 => kb1 ?_) (fun r2 => kb0 (bad (B := True) (C := True) (fun q => r2 q.2.2.2.1)))
  refine isIn_ok (fun r6 => kb1 ?_) (fun r2 => kb0 (bad (B := True) (C := True) (fun q => r2 q.2.2.2.2)))
  refine isFilm_ok hM hn (fun r1 => kb1 (b1 (mGo ?_))) (fun r1 => kb0 (mFail (mP_of hQ (if_neg r1)) hM (by decide) rfl (by decide)))
  have hQ := mP_of hQ (show rTerms g f a b c d e = (0, 0, gTerms g f a b c d e) by unfold rTerms; rw [if_pos r1, if_pos ⟨r2, r3, r4, r5, r6⟩])
  have h0 := mS0 hM
  have l4 : vp_in f 8 := vp_of r1.1 (by show f < 8; have := r1.2; lia) (by decide)
  exact ⟨l4, stm h0 mcA rfl rfl fun S1 h1 => ⟨l4, stm h1 mcA rfl rfl fun S2 h2 => ⟨l4, stm h2 mcA rfl rfl fun S3 h3 => ⟨l4, stm h3 mcA rfl rfl fun S4 h4 => ⟨l4, stm h4 mcA rfl rfl fun S5 h5 => mEnd hQ h5 rfl⟩⟩⟩⟩⟩
theorem mod_spread {g : Gm} {S : Sg} {m : Int32} {Q : Nat → Int32 → Sg → Prop} (hM : mC S g) (hI : Iv g) (hQ : mPost [1] (rSpread g m) S Q) : w_X8_spread m S Q := by
  unfold w_X8_spread w_X8_spread_16
  refine isIn_ok (fun r2 => kb1 (mGo ?_)) (fun r2 => kb0 (mFail (mP_of hQ (if_neg r2)) hM (by decide) rfl (by decide)))
  have hQ := mP_of hQ (show rSpread g m = (0, g 301 0, gu g 301 0 m) by unfold rSpread; rw [if_pos r2])
  have h0 := mS0 hM
  rintro v4 rfl
  exact stm h0 m301 rfl rfl fun S1 h1 => mEnd hQ h1 (h0.1 _ _ m301)
