/-! THE LAW'S ARRAYS against g: what stands in them (LR), what they can be read for -/
theorem z_qr {m s q : Int32} (s0 : 0 ≤ s) (s1 : s < m) (q0 : 0 ≤ q) (hq : q ≤ 100000) (hm : m ≤ 16384) : (s + m * q) / m = q ∧ (s + m * q) - (s + m * q) / m * m = s ∧ 0 ≤ s + m * q := by
  have z0 : (0 : Int32).toInt = 0 := rfl
  have z5 : (100000 : Int32).toInt = 100000 := rfl
  have z6 : (16384 : Int32).toInt = 16384 := rfl
  have a1 := z_le.mp s0
  have a2 := z_lt.mp s1
  have a3 := z_le.mp q0
  have a4 := z_le.mp hq
  have a5 := z_le.mp hm
  have m0 : 0 < m := by lia
  have b1 : m.toInt * q.toInt ≤ 16384 * 100000 := Int.mul_le_mul (by omega) (by omega) (by omega) (by omega)
  have b0 : 0 ≤ m.toInt * q.toInt := Int.mul_nonneg (by omega) (by omega)
  have e1 : (m * q).toInt = m.toInt * q.toInt := z_mul (by omega) (by omega)
  have e2 : (s + m * q).toInt = s.toInt + m.toInt * q.toInt := by rw [z_add (by omega) (by omega), e1]
  have p : 0 ≤ s + m * q := by rw [z_le, e2]; omega
  have e3 := z_div p m0
  have e4 := z_rem p m0
  refine ⟨Int32.toInt_inj.mp ?_, Int32.toInt_inj.mp ?_, p⟩
  · rw [e3, e2, Int.add_mul_ediv_left _ _ (by omega), Int.ediv_eq_zero_of_lt (by omega) (by omega)]; omega
  · rw [e4.1, e2, Int.add_mul_emod_self_left, Int.emod_eq_of_lt (by omega) (by omega)]
/-- a place: the ticket, the hold, or nobody -/
def eA (t k : Int32) : Int32 := if t = -1 then (if k = -1 then 0 else -1 - k) else t + 1
def Lg (S : Sg) (g : Gm) : Prop := S.1 112 (nt 0) = g 300 0 ∧ S.1 112 (nt 1) = g 301 0 ∧ S.1 112 (nt 2) = g 302 0 ∧ S.1 112 (nt 3) = g 307 0 ∧ S.1 112 (nt 4) = g 316 0 ∧ S.1 112 (nt 5) = g 321 0 ∧ S.1 112 (nt 6) = g 331 0 ∧ S.1 112 (nt 7) = g 336 0
def Lh (S : Sg) (g : Gm) : Prop := (∀ i : Int32, 0 ≤ i → i < g 302 0 → S.1 103 (nt i) = g 103 (nt i) + 8 * g 104 (nt i) ∧ S.1 103 (nt (4 + i)) = g 106 (nt i)) ∧ ∀ i : Int32, 0 ≤ i → i < 2 → S.1 103 (nt (2 + i)) = g 105 (nt i)
def Lf (S : Sg) (g : Gm) : Prop := (∀ i : Int32, 0 ≤ i → i < g 307 0 → S.1 104 (nt (8 * i)) = g 108 (nt i) ∧ S.1 104 (nt (8 * i + 1)) = g 109 (nt i) ∧ S.1 104 (nt (8 * i + 2)) = g 110 (nt i) ∧ S.1 104 (nt (8 * i + 3)) = g 111 (nt i) ∧ S.1 104 (nt (8 * i + 5)) = g 113 (nt i)) ∧ ∀ i : Int32, 0 ≤ i → i < 3 → S.1 104 (nt (8 * i + 4)) = g 112 (nt i) ∧ S.1 104 (nt (8 * i + 6)) = g 114 (nt i) ∧ S.1 104 (nt (8 * i + 7)) = g 115 (nt i)
def Ly (S : Sg) (g : Gm) : Prop := ∀ k : Int32, 0 ≤ k → k < g 316 0 → S.1 105 (nt k) = g 117 (nt k) + 4 * g 118 (nt k) ∧ S.1 105 (nt (12 + k)) = g 119 (nt k) ∧ S.1 105 (nt (24 + k)) = g 120 (nt k)
def Lw (S : Sg) (g : Gm) : Prop := ∀ s : Int32, 0 ≤ s → s < g 321 0 → S.1 106 (nt s) = g 122 (nt s) + 4 * (g 123 (nt s) + 4 * g 125 (nt s)) ∧ S.1 106 (nt (5 + s)) = g 124 (nt s)
/-- the places, but for one -/
def La0 (S : Sg) (g : Gm) (x q : Int32) : Prop := ∀ s p : Int32, 0 ≤ s → s < 5 → 0 ≤ p → p < 12 → ¬ (s = x ∧ p = q) → S.1 107 (nt (12 * s + p)) = eA (g 126 (nt (48 * s + p))) (g 127 (nt (48 * s + p)))
def La (S : Sg) (g : Gm) : Prop := ∀ s p : Int32, 0 ≤ s → s < 5 → 0 ≤ p → p < 12 → S.1 107 (nt (12 * s + p)) = eA (g 126 (nt (48 * s + p))) (g 127 (nt (48 * s + p)))
def Lt (S : Sg) (g : Gm) : Prop := ∀ k : Int32, 0 ≤ k → k < g 336 0 → S.1 108 (nt k) = g 137 (nt k) + 8 * (g 138 (nt k) + 16 * (g 139 (nt k) + 128 * g 141 (nt k))) ∧ S.1 109 (nt k) = g 140 (nt k)
def Ld (S : Sg) (g : Gm) : Prop := ∀ k : Int32, 0 ≤ k → k < g 331 0 → S.1 110 (nt k) = g 132 (nt k) + 8 * (g 133 (nt k) + 16 * g 135 (nt k)) ∧ S.1 110 (nt (24 + k)) = g 134 (nt k)
def Ll (S : Sg) (g : Gm) : Prop := ∀ s n : Int32, 0 ≤ s → s < 5 → 0 ≤ n → n < 10 → S.1 111 (nt (10 * s + n)) = if n < g 128 (nt s) then 1 + (g 129 (nt (40 * s + n)) + 128 * g 130 (nt (40 * s + n))) else 0
/-- all but the places -/
def LX (S : Sg) (g : Gm) : Prop := Lg S g ∧ Lh S g ∧ Lf S g ∧ Ly S g ∧ Lw S g ∧ Lt S g ∧ Ld S g ∧ Ll S g
def LR (S : Sg) (g : Gm) : Prop := LX S g ∧ La S g
/-! the bounds that the law's own counts keep -/
def hN (g : Gm) : Nat → Nat
  | 0 => 0
  | n + 1 => hN g n + if g 135 n = 0 then 1 else 0
def lnN (g : Gm) : Nat → Nat
  | 0 => 0
  | n + 1 => lnN g n + nt (g 128 n)
def PB (C : Nat) (g : Gm) : Prop := 8 * nt (g 336 0) + 4 * hN g (nt (g 331 0)) + 4 * lnN g (nt (g 321 0)) ≤ C
def B1 (g : Gm) : Prop := g 302 0 ≤ 2 ∧ g 307 0 ≤ 3 ∧ g 316 0 ≤ 12 ∧ g 321 0 ≤ 5 ∧ g 331 0 ≤ 24
def B2 (g : Gm) : Prop := ∀ h : Int32, 0 ≤ h → h < g 302 0 → g 103 (nt h) ≤ 3 ∧ g 104 (nt h) ≤ 4
def B3 (g : Gm) : Prop := ∀ t : Int32, 0 ≤ t → t < g 336 0 → 0 ≤ g 139 (nt t) ∧ g 139 (nt t) ≤ 120
def B4 (g : Gm) : Prop := ∀ s : Int32, 0 ≤ s → s < g 321 0 → g 128 (nt s) ≤ 9 ∧ ∀ k : Int32, 0 ≤ k → k < g 128 (nt s) → 0 ≤ g 129 (nt (40 * s + k)) ∧ g 129 (nt (40 * s + k)) ≤ 120
def B6 (g : Gm) : Prop := ∀ k : Int32, 0 ≤ k → k < g 316 0 → 0 ≤ g 117 (nt k) ∧ g 117 (nt k) < g 307 0 ∧ 0 ≤ g 118 (nt k) ∧ g 118 (nt k) < g 302 0
def LB (C : Nat) (g : Gm) : Prop := B1 g ∧ B2 g ∧ B3 g ∧ B4 g ∧ PB C g ∧ B6 g
section L1
variable {g : Gm} {S S0 S1 : Sg} {C : Nat}
theorem lb_1 (h : LB C g) : B1 g := h.1
theorem lb_2 (h : LB C g) : B2 g := h.2.1
theorem lb_3 (h : LB C g) : B3 g := h.2.2.1
theorem lb_4 (h : LB C g) : B4 g := h.2.2.2.1
theorem lb_5 (h : LB C g) : PB C g := h.2.2.2.2.1
theorem lb_6 (h : LB C g) : B6 g := h.2.2.2.2.2
theorem lx_g (h : LX S g) : Lg S g := h.1
theorem lx_h (h : LX S g) : Lh S g := h.2.1
theorem lx_f (h : LX S g) : Lf S g := h.2.2.1
theorem lx_y (h : LX S g) : Ly S g := h.2.2.2.1
theorem lx_w (h : LX S g) : Lw S g := h.2.2.2.2.1
theorem lx_t (h : LX S g) : Lt S g := h.2.2.2.2.2.1
theorem lx_d (h : LX S g) : Ld S g := h.2.2.2.2.2.2.1
theorem lx_l (h : LX S g) : Ll S g := h.2.2.2.2.2.2.2
theorem lg_0 (h : LX S g) : S.1 112 (nt 0) = g 300 0 := h.1.1
theorem lg_1 (h : LX S g) : S.1 112 (nt 1) = g 301 0 := h.1.2.1
theorem lg_2 (h : LX S g) : S.1 112 (nt 2) = g 302 0 := h.1.2.2.1
theorem lg_3 (h : LX S g) : S.1 112 (nt 3) = g 307 0 := h.1.2.2.2.1
theorem lg_4 (h : LX S g) : S.1 112 (nt 4) = g 316 0 := h.1.2.2.2.2.1
theorem lg_5 (h : LX S g) : S.1 112 (nt 5) = g 321 0 := h.1.2.2.2.2.2.1
theorem lg_6 (h : LX S g) : S.1 112 (nt 6) = g 331 0 := h.1.2.2.2.2.2.2.1
theorem lg_7 (h : LX S g) : S.1 112 (nt 7) = g 336 0 := h.1.2.2.2.2.2.2.2
theorem LX_fr (hf : fr S S1) (h : LX S g) : LX S1 g := by
  obtain ⟨⟨a0, a1, a2, a3, a4, a5, a6, a7⟩, ⟨b1, b2⟩, ⟨c1, c2⟩, d1, e1, f1, g1, h1⟩ := h
  have k : ∀ c i, 103 ≤ c ∧ c ≤ 141 → S1.1 c i = S.1 c i := fun c i q => hf c i (Or.inl q)
  refine ⟨⟨(k _ _ (by omega)).trans a0, (k _ _ (by omega)).trans a1, (k _ _ (by omega)).trans a2, (k _ _ (by omega)).trans a3, (k _ _ (by omega)).trans a4, (k _ _ (by omega)).trans a5, (k _ _ (by omega)).trans a6, (k _ _ (by omega)).trans a7⟩, ⟨fun i x y => ?_, fun i x y => ?_⟩, ⟨fun i x y => ?_, fun i x y => ?_⟩, fun i x y => ?_, fun i x y => ?_, fun i x y => ?_, fun i x y => ?_, fun s n x y z w => ?_⟩
  · rw [k _ _ (by omega), k _ _ (by omega)]; exact b1 i x y
  · rw [k _ _ (by omega)]; exact b2 i x y
  · rw [k _ _ (by omega), k _ _ (by omega), k _ _ (by omega), k _ _ (by omega), k _ _ (by omega)]; exact c1 i x y
  · rw [k _ _ (by omega), k _ _ (by omega), k _ _ (by omega)]; exact c2 i x y
  · rw [k _ _ (by omega), k _ _ (by omega), k _ _ (by omega)]; exact d1 i x y
  · rw [k _ _ (by omega), k _ _ (by omega)]; exact e1 i x y
  · rw [k _ _ (by omega), k _ _ (by omega)]; exact f1 i x y
  · rw [k _ _ (by omega), k _ _ (by omega)]; exact g1 i x y
  · rw [k _ _ (by omega)]; exact h1 s n x y z w
theorem LR_fr (hf : fr S S1) (h : LR S g) : LR S1 g := ⟨LX_fr hf h.1, fun s p a b c d => by rw [hf 107 _ (Or.inl (by omega))]; exact h.2 s p a b c d⟩
/-- a state that the law made of S0, whose arrays say g -/
def lS (S0 S : Sg) (g : Gm) : Prop := LR S g ∧ clf S0 S
theorem clf_l {c i : Nat} {v : Int32} (h : clf S0 S) (hc : 103 ≤ c ∧ c ≤ 141 := by omega) : clf S0 (su S c i v) := clf_su h (Or.inl (Or.inl hc))
/-! reading -/
theorem w_all (h : LX S g) (hI : Ia g) (hB : B1 g) {s : Int32} (s0 : 0 ≤ s) (s1 : s < g 321 0) : S.1 106 (nt s) - S.1 106 (nt s) / 4 * 4 = g 122 (nt s) ∧ S.1 106 (nt s) / 4 - S.1 106 (nt s) / 4 / 4 * 4 = g 123 (nt s) ∧ S.1 106 (nt s) / 16 = g 125 (nt s) ∧ S.1 106 (nt (5 + s)) = g 124 (nt s) := by
  obtain ⟨e1, e2⟩ := lx_w h s s0 s1
  obtain ⟨b1, b2, -⟩ := hB
  obtain ⟨f0, f1, h0, h1, -, -, t0, t1, -⟩ := ia_s hI s s0 s1
  obtain ⟨q1, q2, -⟩ := z_qr (m := 4) (s := g 122 (nt s)) (q := g 123 (nt s) + 4 * g 125 (nt s)) f0 (by lia) (by lia) (by lia) (by decide)
  obtain ⟨q3, q4, -⟩ := z_qr (m := 4) (s := g 123 (nt s)) (q := g 125 (nt s)) h0 (by lia) t0 (by lia) (by decide)
  obtain ⟨q5, -, -⟩ := z_qr (m := 16) (s := g 122 (nt s) + 4 * g 123 (nt s)) (q := g 125 (nt s)) (by lia) (by lia) t0 (by lia) (by decide)
  rw [e1]
  refine ⟨q2, ?_, ?_, e2⟩
  · rw [q1]; exact q4
  · rw [show g 122 (nt s) + 4 * (g 123 (nt s) + 4 * g 125 (nt s)) = g 122 (nt s) + 4 * g 123 (nt s) + 16 * g 125 (nt s) by lia]; exact q5
theorem w_f (h : LX S g) (hI : Ia g) (hB : B1 g) {s : Int32} (s0 : 0 ≤ s) (s1 : s < g 321 0) : S.1 106 (nt s) - S.1 106 (nt s) / 4 * 4 = g 122 (nt s) := (w_all h hI hB s0 s1).1
theorem w_h (h : LX S g) (hI : Ia g) (hB : B1 g) {s : Int32} (s0 : 0 ≤ s) (s1 : s < g 321 0) : S.1 106 (nt s) / 4 - S.1 106 (nt s) / 4 / 4 * 4 = g 123 (nt s) := (w_all h hI hB s0 s1).2.1
theorem w_s (h : LX S g) (hI : Ia g) (hB : B1 g) {s : Int32} (s0 : 0 ≤ s) (s1 : s < g 321 0) : S.1 106 (nt s) / 16 = g 125 (nt s) := (w_all h hI hB s0 s1).2.2.1
theorem w_t (h : LX S g) {s : Int32} (s0 : 0 ≤ s) (s1 : s < g 321 0) : S.1 106 (nt (5 + s)) = g 124 (nt s) := (lx_w h s s0 s1).2
theorem h_all (h : LX S g) (hI : Ia g) {i : Int32} (s0 : 0 ≤ i) (s1 : i < g 302 0) : S.1 103 (nt i) - S.1 103 (nt i) / 8 * 8 = g 103 (nt i) ∧ S.1 103 (nt i) / 8 = g 104 (nt i) := by
  obtain ⟨e1, -⟩ := (lx_h h).1 i s0 s1
  obtain ⟨a1, a2, a3, a4⟩ := ia_h hI i s0 s1
  obtain ⟨q1, q2, -⟩ := z_qr (m := 8) (s := g 103 (nt i)) (q := g 104 (nt i)) (by lia) (by lia) (by lia) (by lia) (by decide)
  rw [e1]
  exact ⟨q2, q1⟩
theorem y_all (h : LX S g) {k : Int32} (s0 : 0 ≤ k) (s1 : k < g 316 0) : S.1 105 (nt k) = g 117 (nt k) + 4 * g 118 (nt k) ∧ S.1 105 (nt (12 + k)) = g 119 (nt k) ∧ S.1 105 (nt (24 + k)) = g 120 (nt k) := lx_y h k s0 s1
theorem f_len (h : LX S g) {i : Int32} (s0 : 0 ≤ i) (s1 : i < g 307 0) : S.1 104 (nt (8 * i)) = g 108 (nt i) := ((lx_f h).1 i s0 s1).1
theorem f_age (h : LX S g) {i : Int32} (s0 : 0 ≤ i) (s1 : i < g 307 0) : S.1 104 (nt (8 * i + 1)) = g 109 (nt i) := ((lx_f h).1 i s0 s1).2.1
theorem f_prc (h : LX S g) {i : Int32} (s0 : 0 ≤ i) (s1 : i < g 307 0) : S.1 104 (nt (8 * i + 2)) = g 110 (nt i) := ((lx_f h).1 i s0 s1).2.2.1
theorem d_all (h : LX S g) (hI : Ia g) (hB : LB C g) {k : Int32} (k0 : 0 ≤ k) (k1 : k < g 331 0) : S.1 110 (nt k) - S.1 110 (nt k) / 8 * 8 = g 132 (nt k) ∧ S.1 110 (nt k) / 8 - S.1 110 (nt k) / 8 / 16 * 16 = g 133 (nt k) ∧ (128 ≤ S.1 110 (nt k) ↔ g 135 (nt k) = 1) ∧ S.1 110 (nt (24 + k)) = g 134 (nt k) ∧ 0 ≤ g 133 (nt k) ∧ g 133 (nt k) < 12 := by
  obtain ⟨e1, e2⟩ := lx_d h k k0 k1
  obtain ⟨b1, b2, b3, b4, b5⟩ := lb_1 hB
  obtain ⟨s0, s1, p0, p1, o, -⟩ := ia_o hI k k0 k1
  obtain ⟨-, -, h0, h1, -⟩ := ia_s hI _ s0 s1
  obtain ⟨r1, r2⟩ := lb_2 hB _ h0 h1
  obtain ⟨r3, r4, r5, r6⟩ := ia_h hI _ h0 h1
  have p2 : g 133 (nt k) < 12 := by
    have z := z_lt.mp p1
    unfold wd at z
    rw [z_le] at r1 r2 r3 r5
    have h1 : (1 : Int32).toInt = 1 := rfl
    have h3 : (3 : Int32).toInt = 3 := rfl
    have h4 : (4 : Int32).toInt = 4 := rfl
    have h12 : (12 : Int32).toInt = 12 := rfl
    have c1 : 1 * 1 ≤ (g 103 (nt (g 123 (nt (g 132 (nt k)))))).toInt * (g 104 (nt (g 123 (nt (g 132 (nt k)))))).toInt := Int.mul_le_mul (by omega) (by omega) (by omega) (by omega)
    have c2 : (g 103 (nt (g 123 (nt (g 132 (nt k)))))).toInt * (g 104 (nt (g 123 (nt (g 132 (nt k)))))).toInt ≤ 3 * 4 := Int.mul_le_mul (by omega) (by omega) (by omega) (by omega)
    rw [z_mul (by omega) (by omega)] at z
    rw [z_lt]; omega
  obtain ⟨q1, q2, -⟩ := z_qr (m := 8) (s := g 132 (nt k)) (q := g 133 (nt k) + 16 * g 135 (nt k)) s0 (by lia) (by lia) (by lia) (by decide)
  obtain ⟨q3, q4, -⟩ := z_qr (m := 16) (s := g 133 (nt k)) (q := g 135 (nt k)) p0 (by lia) (by lia) (by lia) (by decide)
  rw [e1]
  refine ⟨q2, ?_, ?_, e2, p0, p2⟩
  · rw [q1]; exact q4
  · constructor <;> intro z <;> lia
theorem wd12 (hI : Ia g) (hB : LB C g) {s : Int32} (s0 : 0 ≤ s) (s1 : s < g 321 0) : 1 ≤ wd g s ∧ wd g s ≤ 12 := by
  refine ⟨(wd_le (ia_h hI) (ia_s hI) s0 s1).1, ?_⟩
  obtain ⟨-, -, h0, h1, -⟩ := ia_s hI _ s0 s1
  obtain ⟨r1, r2⟩ := lb_2 hB _ h0 h1
  obtain ⟨r3, r4, r5, r6⟩ := ia_h hI _ h0 h1
  unfold wd
  rw [z_le] at r1 r2 r3 r5
  have h1 : (1 : Int32).toInt = 1 := rfl
  have h3 : (3 : Int32).toInt = 3 := rfl
  have h4 : (4 : Int32).toInt = 4 := rfl
  have h12 : (12 : Int32).toInt = 12 := rfl
  have c1 : 1 * 1 ≤ (g 103 (nt (g 123 (nt s)))).toInt * (g 104 (nt (g 123 (nt s)))).toInt := Int.mul_le_mul (by omega) (by omega) (by omega) (by omega)
  have c2 : (g 103 (nt (g 123 (nt s)))).toInt * (g 104 (nt (g 123 (nt s)))).toInt ≤ 3 * 4 := Int.mul_le_mul (by omega) (by omega) (by omega) (by omega)
  rw [z_le, z_mul (by omega) (by omega)]
  omega
theorem t_all (h : LX S g) (hI : Ia g) (hB : LB C g) {k : Int32} (k0 : 0 ≤ k) (k1 : k < g 336 0) : S.1 108 (nt k) - S.1 108 (nt k) / 8 * 8 = g 137 (nt k) ∧ S.1 108 (nt k) / 8 - S.1 108 (nt k) / 8 / 16 * 16 = g 138 (nt k) ∧ S.1 108 (nt k) / 128 - S.1 108 (nt k) / 128 / 128 * 128 = g 139 (nt k) ∧ S.1 108 (nt k) / 16384 = g 141 (nt k) ∧ (16384 ≤ S.1 108 (nt k) ↔ g 141 (nt k) = 1) ∧ S.1 109 (nt k) = g 140 (nt k) ∧ 0 ≤ g 138 (nt k) ∧ g 138 (nt k) < 12 := by
  obtain ⟨e1, e2⟩ := lx_t h k k0 k1
  obtain ⟨b1, b2, b3, b4, b5⟩ := lb_1 hB
  obtain ⟨s0, s1, p0, p1, o, -⟩ := ia_t hI k k0 k1
  obtain ⟨a0, a1⟩ := lb_3 hB k k0 k1
  have p2 := (wd12 hI hB s0 s1).2
  obtain ⟨q1, q2, -⟩ := z_qr (m := 8) (s := g 137 (nt k)) (q := g 138 (nt k) + 16 * (g 139 (nt k) + 128 * g 141 (nt k))) s0 (by lia) (by lia) (by lia) (by decide)
  obtain ⟨q3, q4, -⟩ := z_qr (m := 16) (s := g 138 (nt k)) (q := g 139 (nt k) + 128 * g 141 (nt k)) p0 (by lia) (by lia) (by lia) (by decide)
  obtain ⟨q5, q6, -⟩ := z_qr (m := 128) (s := g 137 (nt k) + 8 * g 138 (nt k)) (q := g 139 (nt k) + 128 * g 141 (nt k)) (by lia) (by lia) (by lia) (by lia) (by decide)
  obtain ⟨q7, q8, -⟩ := z_qr (m := 128) (s := g 139 (nt k)) (q := g 141 (nt k)) (by lia) (by lia) (by lia) (by lia) (by decide)
  obtain ⟨q9, -, -⟩ := z_qr (m := 16384) (s := g 137 (nt k) + 8 * g 138 (nt k) + 128 * g 139 (nt k)) (q := g 141 (nt k)) (by lia) (by lia) (by lia) (by lia) (by decide)
  rw [e1]
  refine ⟨q2, ?_, ?_, ?_, ?_, e2, p0, by lia⟩
  · rw [q1]; exact q4
  · rw [show g 137 (nt k) + 8 * (g 138 (nt k) + 16 * (g 139 (nt k) + 128 * g 141 (nt k))) = g 137 (nt k) + 8 * g 138 (nt k) + 128 * (g 139 (nt k) + 128 * g 141 (nt k)) by lia, q5]; exact q8
  · rw [show g 137 (nt k) + 8 * (g 138 (nt k) + 16 * (g 139 (nt k) + 128 * g 141 (nt k))) = g 137 (nt k) + 8 * g 138 (nt k) + 128 * g 139 (nt k) + 16384 * g 141 (nt k) by lia]; exact q9
  · constructor <;> intro z <;> lia
/-- 'a' against what stands on a place -/
theorem eA_0 {t k : Int32} (ht : t = -1 ∨ 0 ≤ t ∧ t ≤ 1000) (hk : k = -1 ∨ 0 ≤ k ∧ k ≤ 1000) : (eA t k = 0 ↔ t = -1 ∧ k = -1) ∧ (0 < eA t k ↔ t ≠ -1) ∧ (eA t k < 0 ↔ t = -1 ∧ k ≠ -1) := by
  unfold eA
  split
  · split
    · refine ⟨⟨?_, ?_⟩, ⟨?_, ?_⟩, ⟨?_, ?_⟩⟩ <;> intro z <;> lia
    · refine ⟨⟨?_, ?_⟩, ⟨?_, ?_⟩, ⟨?_, ?_⟩⟩ <;> intro z <;> lia
  · refine ⟨⟨?_, ?_⟩, ⟨?_, ?_⟩, ⟨?_, ?_⟩⟩ <;> intro z <;> lia
/-! the numbers of the arrays' places -/
theorem a_inj {s p s2 p2 : Int32} (h0 : 0 ≤ s) (h1 : s < 5) (h2 : 0 ≤ p) (h3 : p < 12) (h4 : 0 ≤ s2) (h5 : s2 < 5) (h6 : 0 ≤ p2) (h7 : p2 < 12) : nt (12 * s + p) = nt (12 * s2 + p2) ↔ s = s2 ∧ p = p2 := by
  rw [nt_inj (by lia) (by lia)]
  constructor
  · intro e; constructor <;> lia
  · rintro ⟨rfl, rfl⟩; rfl
theorem l_inj {s p s2 p2 : Int32} (h0 : 0 ≤ s) (h1 : s < 5) (h2 : 0 ≤ p) (h3 : p < 10) (h4 : 0 ≤ s2) (h5 : s2 < 5) (h6 : 0 ≤ p2) (h7 : p2 < 10) : nt (10 * s + p) = nt (10 * s2 + p2) ↔ s = s2 ∧ p = p2 := by
  rw [nt_inj (by lia) (by lia)]
  constructor
  · intro e; constructor <;> lia
  · rintro ⟨rfl, rfl⟩; rfl
theorem f_inj {s p s2 p2 : Int32} (h0 : 0 ≤ s) (h1 : s < 3) (h2 : 0 ≤ p) (h3 : p < 8) (h4 : 0 ≤ s2) (h5 : s2 < 3) (h6 : 0 ≤ p2) (h7 : p2 < 8) : nt (8 * s + p) = nt (8 * s2 + p2) ↔ s = s2 ∧ p = p2 := by
  rw [nt_inj (by lia) (by lia)]
  constructor
  · intro e; constructor <;> lia
  · rintro ⟨rfl, rfl⟩; rfl
theorem vd {x : Int32} {n : Nat} (h : (¬ (x < 0 ∨ n ≤ x.toNatClampNeg)) := by decide) : vp_in x n := h
theorem su2 {S : Sg} {c i c2 j : Nat} {v w : Int32} (h : c ≠ c2) : (su (su S c i v) c2 j w).1 c i = v := (su_ne (Or.inl h)).trans su_at
theorem va {x : Int32} {n : Nat} (h0 : 0 ≤ x) (h1 : x < nI n) (hn : n < 2147483648 := by decide) : vp_in x n := vp_of h0 h1 hn
end L1
