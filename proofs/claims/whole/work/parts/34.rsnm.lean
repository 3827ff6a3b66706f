/-! whether a show fits: the reference's loop; show, fits, first on both sides -/
theorem isOn_ok {g : Gm} {S : Sg} {s : Int32} {Q : Nat → Int32 → Sg → Prop} (hM : mC S g) (hI : I_n g) (h0 : 0 ≤ s) (h1 : s < g 321 0) (q1 : on g s → Q 0 1 S) (q0 : ¬ on g s → Q 0 0 S) : w_X8_isOn s S Q := by
  have v : vp_in s 30 := vp_of h0 (by have := hI; obtain ⟨-, -, -, -, -, -, -, -, -, -, -, n2, -⟩ := this; show s < 30; lia) (by decide)
  unfold w_X8_isOn
  rw [hM _ _ (mcA : mc 125)]
  exact ⟨v, fun a => q1 (Or.inl a), fun a => ⟨v, fun b => q1 (Or.inr b), fun b => q0 (fun q => q.elim a b)⟩⟩
theorem endM_ok {g : Gm} {S : Sg} {s : Int32} {Q : Nat → Int32 → Sg → Prop} (hM : mC S g) (hI : Ia g) (h0 : 0 ≤ s) (h1 : s < g 321 0) (q : Q 0 (en g s) S) : w_X8_end s S Q := by
  have v : vp_in s 30 := vp_of h0 (by obtain ⟨-, -, -, -, -, -, -, -, -, -, -, n2, -⟩ := ia_n hI; show s < 30; lia) (by decide)
  obtain ⟨⟨f1, f2⟩, -⟩ := i_s1 hI h0 h1
  have v2 : vp_in (g 122 (nt s)) 8 := vp_of f1 (by obtain ⟨-, -, -, -, -, -, -, n2, -⟩ := ia_n hI; show _ < 8; lia) (by decide)
  unfold w_X8_end
  rw [hM _ _ (mcA : mc 122), hM _ _ (mcA : mc 124), hM _ _ (mcA : mc 108)]
  exact ⟨v, v, v2, q⟩
section R2
variable {g : Gm} {S : Sg} {f h t : Int32} {Q : Nat → Int32 → Sg → Prop}
abbrev opK (g : Gm) (f h t k : Int32) : Prop := g 117 (nt k) = f ∧ g 118 (nt k) = h ∧ g 119 (nt k) ≤ t ∧ t + g 108 (nt f) ≤ g 120 (nt k)
def upt (P : Int32 → Prop) (x : Int32) : Prop := ∃ k : Int32, 0 ≤ k ∧ k < x ∧ P k
theorem upt_s {P : Int32 → Prop} {x : Int32} (h0 : 0 ≤ x) (h1 : x ≤ 1000) : upt P (x + 1) ↔ upt P x ∨ P x := by
  constructor
  · rintro ⟨k, k1, k2, k3⟩
    rcases i32_lt1 k2 h0 h1 with e | e
    · exact Or.inl ⟨k, k1, e, k3⟩
    · rw [← e]; exact Or.inr k3
  · rintro (⟨k, k1, k2, k3⟩ | q)
    · exact ⟨k, k1, by lia, k3⟩
    · exact ⟨x, h0, by lia, q⟩
/-- a flag: 1 if P, else 0 -/
def flg (v : Int32) (P : Prop) : Prop := (v = 1 ∧ P) ∨ (v = 0 ∧ ¬ P)
theorem flg_0 {v : Int32} {P : Prop} (h : flg v P) (hv : v = 0) : ¬ P := by
  rcases h with ⟨a, -⟩ | ⟨-, b⟩
  · rw [hv] at a; exact absurd a (by decide)
  · exact b
theorem flg_1 {v : Int32} {P : Prop} (h : flg v P) (hv : ¬ v = 0) : P := by
  rcases h with ⟨-, a⟩ | ⟨b, -⟩
  · exact a
  · exact absurd b hv
theorem reas_ok (hM : mC S g) (hI : Ia g) (hf : isX g 307 f) (hh : isX g 302 h) (ht : 0 ≤ t ∧ t ≤ 100000) (q : Q 0 (rsn g f h t) S) : w_X8_reason f h t S Q := by
  have n3 := n321 (ia_n hI)
  obtain ⟨-, -, -, -, -, n4, -, n8, k1, k2, -, n30, -⟩ := ia_n hI
  have vf : vp_in f 8 := vp_of hf.1 (by have := hf.2; show f < 8; lia) (by decide)
  have vh : vp_in h 4 := vp_of hh.1 (by have := hh.2; show h < 4; lia) (by decide)
  have L2 : ∀ (d : Nat) (x o m r : Int32), 0 ≤ x → x + nI d = g 321 0 → x ≤ g 321 0 → flg o (Opn g f h t) → flg m (upt (mtS g f h t) x) → flg r (upt (nrS g h t) x) → w_X8_reason_112 Q (d + 1) h t (t + g 108 (nt f)) o m r (brn g f h (nt x)) x S := by
    intro d
    have fin : ∀ (x o m r : Int32), x = g 321 0 → flg o (Opn g f h t) → flg m (upt (mtS g f h t) x) → flg r (upt (nrS g h t) x) → ((o = 0 → Q 0 1 S) ∧ (¬ o = 0 → ((m = 0 → ((r = 0 → (vp_in h 4 ∧ ((brn g f h (nt x) ≤ S.1 106 (nt h) → Q 0 0 S) ∧ (¬ brn g f h (nt x) ≤ S.1 106 (nt h) → Q 0 4 S)))) ∧ (¬ r = 0 → Q 0 3 S))) ∧ (¬ m = 0 → Q 0 2 S)))) := by
      intro x o m r e ho hm hr
      rw [hM _ _ (mcA : mc 106), e]
      rw [e] at hm hr
      refine ⟨fun a => ?_, fun a => ⟨fun b => ⟨fun c => ⟨vh, fun z => ?_, fun z => ?_⟩, fun c => ?_⟩, fun b => ?_⟩⟩
      · rw [rsn1 (flg_0 ho a)] at q; exact q
      · rw [rsn0 (flg_1 ho a) (flg_0 hm b) (flg_0 hr c) z] at q; exact q
      · rw [rsn4 (flg_1 ho a) (flg_0 hm b) (flg_0 hr c) z] at q; exact q
      · rw [rsn3 (flg_1 ho a) (flg_0 hm b) (flg_1 hr c)] at q; exact q
      · rw [rsn2 (flg_1 ho a) (flg_1 hm b)] at q; exact q
    induction d with
    | zero =>
      intro x o m r h0 h1 h2 ho hm hr
      have e : x = g 321 0 := by rw [← h1]; show x = x + 0; lia
      rw [w_X8_reason_112, hM _ _ m321]
      exact ⟨fun _ => fin x o m r e ho hm hr, fun a => by lia⟩
    | succ d ih =>
      intro x o m r h0 h1 h2 ho hm hr
      rw [w_X8_reason_112, hM _ _ m321]
      refine ⟨fun a => fin x o m r (by lia) ho hm hr, fun a => ?_⟩
      have hx : x < g 321 0 := by lia
      have vx : vp_in x 30 := vp_of h0 (by show x < 30; lia) (by decide)
      have v22 : vp_in (g 122 (nt x)) 8 := by
        obtain ⟨⟨f1, f2⟩, -⟩ := i_s1 hI h0 hx
        exact vp_of f1 (by show _ < 8; lia) (by decide)
      obtain ⟨-, -, -, -, s1, s2, -⟩ := ia_s hI x h0 hx
      have st := brn_step (g := g) (f := f) (h := h) h0 (x := x) (by lia)
      -- the step, once all of it is known
      have nx : ∀ m2 r2 v, flg m2 (upt (mtS g f h t) x ∨ mtS g f h t x) → flg r2 (upt (nrS g h t) x ∨ nrS g h t x) → v = brn g f h (nt (x + 1)) → w_X8_reason_112 Q (d + 1) h t (t + g 108 (nt f)) o m2 r2 v (x + 1) S := fun m2 r2 v a1 a2 a3 => by
        rw [a3]
        refine ih (x + 1) o m2 r2 (by lia) (by rw [nI1] at h1; lia) (by lia) ho ?_ ?_
        · rw [upt_s h0 (by lia)]; exact a1
        · rw [upt_s h0 (by lia)]; exact a2
      -- from the lengths on: e1: whether it is here
      have p3 : ∀ (b m2 r2 : Int32), flg b (on g x ∧ g 123 (nt x) = h) → flg m2 (upt (mtS g f h t) x ∨ mtS g f h t x) → flg r2 (upt (nrS g h t) x ∨ nrS g h t x) → w_X8_reason_266 (fun x2 x3 x4 x5 x6 x7 x8 x9 S => w_X8_reason_112 Q (d + 1) x2 x3 x4 x5 x6 x7 x8 x9 S) Q h t (t + g 108 (nt f)) o m2 (brn g f h (nt x)) x b r2 S := fun b m2 r2 hb h3 h4 => by
        unfold w_X8_reason_266 w_X8_reason_291
        rw [hM _ _ (mcA : mc 122), hM _ _ (mcA : mc 108)]
        refine ⟨fun z => ?_, fun z => ⟨vx, v22, ?_⟩⟩
        · rintro v rfl
          exact nx m2 r2 _ h3 h4 (by rw [st, if_neg (flg_0 hb z)])
        · rintro v rfl
          exact nx m2 r2 _ h3 h4 (by rw [st, if_pos (flg_1 hb z)])
      have p2 : ∀ (b m2 y : Int32), flg b (on g x ∧ g 123 (nt x) = h) → flg m2 (upt (mtS g f h t) x ∨ mtS g f h t x) → y = (if g 124 (nt x) ≤ t then t - g 124 (nt x) else g 124 (nt x) - t) → w_X8_reason_225 (fun x2 x3 x4 x5 x6 x7 x8 x9 S => w_X8_reason_112 Q (d + 1) x2 x3 x4 x5 x6 x7 x8 x9 S) Q h t (t + g 108 (nt f)) o r (brn g f h (nt x)) x b y m2 S := fun b m2 y hb h3 hy => by
        unfold w_X8_reason_225 w_X8_reason_265 w_X8_reason_261
        refine ⟨fun z => isOn_ok hM (ia_n hI) h0 hx (fun o1 => kb1 ⟨vx, ?_⟩) (fun o1 => kb0 (p3 b m2 0 hb h3 (Or.inr ⟨rfl, fun w => w.elim (flg_0 hr z) (fun w => o1 w.1)⟩))), fun z => p3 b m2 1 hb h3 (Or.inl ⟨rfl, Or.inl (flg_1 hr z)⟩)⟩
        rw [hM _ _ (mcA : mc 123), hM _ _ m301]
        refine ⟨fun w => p3 b m2 0 hb h3 (Or.inr ⟨rfl, fun w2 => w2.elim (flg_0 hr z) (fun w2 => w2.2.1 w)⟩), fun w => ⟨fun u => p3 b m2 0 hb h3 (Or.inr ⟨rfl, fun w2 => w2.elim (flg_0 hr z) (fun w2 => ?_)⟩), fun u => p3 b m2 1 hb h3 (Or.inl ⟨rfl, Or.inr ⟨o1, w, ?_⟩⟩)⟩⟩
        · have := w2.2.2; rw [← hy] at this; lia
        · rw [← hy]; lia
      have p1 : ∀ (b y : Int32), flg b (on g x ∧ g 123 (nt x) = h) → y = (if g 124 (nt x) ≤ t then t - g 124 (nt x) else g 124 (nt x) - t) → w_X8_reason_180 (fun x2 x3 x4 x5 x6 x7 x8 x9 S => w_X8_reason_112 Q (d + 1) x2 x3 x4 x5 x6 x7 x8 x9 S) Q h t (t + g 108 (nt f)) o m r (brn g f h (nt x)) x b y S := fun b y hb hy => by
        unfold w_X8_reason_180 w_X8_reason_224 w_X8_reason_220
        refine ⟨fun z => ⟨fun w => p2 b 0 y hb (Or.inr ⟨rfl, fun u => u.elim (flg_0 hm z) (fun u => flg_0 hb w ⟨u.1, u.2.1⟩)⟩) hy, fun w => endM_ok hM hI h0 hx (kz ⟨fun u => p2 b 0 y hb (Or.inr ⟨rfl, fun u2 => u2.elim (flg_0 hm z) (fun u2 => by have := u2.2.2.1; lia)⟩) hy, fun u => ⟨vx, ?_⟩⟩)⟩, fun z => p2 b 1 y hb (Or.inl ⟨rfl, Or.inl (flg_1 hm z)⟩) hy⟩
        rw [hM _ _ (mcA : mc 124)]
        refine ⟨fun u3 => p2 b 0 y hb (Or.inr ⟨rfl, fun u2 => u2.elim (flg_0 hm z) (fun u2 => by have := u2.2.2.2; lia)⟩) hy, fun u3 => p2 b 1 y hb (Or.inl ⟨rfl, Or.inr ⟨(flg_1 hb w).1, (flg_1 hb w).2, by lia, by lia⟩⟩) hy⟩
      have p0 : ∀ (b : Int32), flg b (on g x ∧ g 123 (nt x) = h) → w_X8_reason_146 (fun x2 x3 x4 x5 x6 x7 x8 x9 S => w_X8_reason_112 Q (d + 1) x2 x3 x4 x5 x6 x7 x8 x9 S) Q h t (t + g 108 (nt f)) o m r (brn g f h (nt x)) x b S := fun b hb => by
        unfold w_X8_reason_146
        rw [hM _ _ (mcA : mc 124)]
        exact ⟨vx, fun z => ⟨vx, p1 b _ hb (by rw [if_pos z])⟩, fun z => ⟨vx, p1 b _ hb (by rw [if_neg z])⟩⟩
      unfold w_X8_reason_145
      refine isOn_ok hM (ia_n hI) h0 hx (fun o1 => kb1 ⟨vx, ?_⟩) (fun o1 => kb0 (p0 0 (Or.inr ⟨rfl, fun w => o1 w.1⟩)))
      rw [hM _ _ (mcA : mc 123)]
      exact ⟨fun z => p0 1 (Or.inl ⟨rfl, o1, z⟩), fun z => p0 0 (Or.inr ⟨rfl, fun w => z w.2⟩)⟩
  have L1 : ∀ (d : Nat) (x o : Int32), 0 ≤ x → x + nI d = g 316 0 → x ≤ g 316 0 → flg o (upt (opK g f h t) x) → w_X8_reason_16 Q (d + 1) f h t (t + g 108 (nt f)) o x S := by
    intro d
    have fin : ∀ (x o : Int32), x = g 316 0 → flg o (upt (opK g f h t) x) → (vp_in h 4 ∧ (vp_in f 8 ∧ (∀ v11, v11 = (S.1 105 (nt h)) + (S.1 108 (nt f)) → ∃ n9, w_X8_reason_112 Q n9 h t (t + g 108 (nt f)) o 0 0 v11 0 S))) := fun x o e ho => by
      refine ⟨vh, vf, ?_⟩
      rw [hM _ _ (mcA : mc 105), hM _ _ (mcA : mc 108), e] at *
      rintro v rfl
      rw [← brn_0]
      exact ⟨nt (g 321 0) + 1, L2 _ 0 o 0 0 (by decide) (by rw [nI_nt0 n3.1]; lia) n3.1 ho (Or.inr ⟨rfl, fun w => by obtain ⟨k, a, b, -⟩ := w; lia⟩) (Or.inr ⟨rfl, fun w => by obtain ⟨k, a, b, -⟩ := w; lia⟩)⟩
    induction d with
    | zero =>
      intro x o h0 h1 h2 ho
      have e : x = g 316 0 := by rw [← h1]; show x = x + 0; lia
      rw [w_X8_reason_16, hM _ _ m316]
      exact ⟨fun _ => fin x o e ho, fun a => by lia⟩
    | succ d ih =>
      intro x o h0 h1 h2 ho
      rw [w_X8_reason_16, hM _ _ m316]
      refine ⟨fun a => fin x o (by lia) ho, fun a => ?_⟩
      have vx : vp_in x 30 := vp_of h0 (by show x < 30; lia) (by decide)
      have nx : ∀ o2, flg o2 (upt (opK g f h t) x ∨ opK g f h t x) → w_X8_reason_16 Q (d + 1) f h t (t + g 108 (nt f)) o2 (x + 1) S := fun o2 a1 => by
        refine ih (x + 1) o2 (by lia) (by rw [nI1] at h1; lia) (by lia) ?_
        rw [upt_s h0 (by lia)]; exact a1
      unfold w_X8_reason_79 w_X8_reason_75 w_X8_reason_80
      rw [hM _ _ (mcA : mc 117), hM _ _ (mcA : mc 118), hM _ _ (mcA : mc 119), hM _ _ (mcA : mc 120)]
      refine ⟨fun z => ⟨vx, fun a1 => ⟨vx, fun a2 => ⟨vx, fun a3 => nx 0 (Or.inr ⟨rfl, fun w => w.elim (flg_0 ho z) (fun w => by have := w.2.2.1; lia)⟩), fun a3 => ⟨vx, fun a4 => nx 0 (Or.inr ⟨rfl, fun w => w.elim (flg_0 ho z) (fun w => by have := w.2.2.2; lia)⟩), fun a4 => nx 1 (Or.inl ⟨rfl, Or.inr ⟨a1, a2, by lia, by lia⟩⟩)⟩⟩, fun a2 => nx 0 (Or.inr ⟨rfl, fun w => w.elim (flg_0 ho z) (fun w => a2 w.2.1)⟩)⟩, fun a1 => nx 0 (Or.inr ⟨rfl, fun w => w.elim (flg_0 ho z) (fun w => a1 w.1)⟩)⟩, fun z => nx 1 (Or.inl ⟨rfl, Or.inl (flg_1 ho z)⟩)⟩
  unfold w_X8_reason
  refine ⟨vf, ?_⟩
  rw [hM _ _ (mcA : mc 108)]
  rintro v rfl
  exact ⟨nt (g 316 0) + 1, L1 _ 0 0 (by decide) (by rw [nI_nt0 k1]; lia) k1 (Or.inr ⟨rfl, fun w => by obtain ⟨k, a, b, -⟩ := w; lia⟩)⟩
end R2
