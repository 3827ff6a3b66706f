/-! THE PURE STAGE: the abstract state g is the reference's columns; mC: the state has them; cC: the class's columns say the same; Iv: what always holds of g -/
abbrev Gm : Type := Nat → Nat → Int32
def gu (g : Gm) (c i : Nat) (v : Int32) : Gm := fun a b => if a = c ∧ b = i then v else g a b
def mc (c : Nat) : Prop := (103 ≤ c ∧ c ≤ 141) ∨ (300 ≤ c ∧ c ≤ 341)
def mC (S : Sg) (g : Gm) : Prop := ∀ c i, mc c → S.1 c i = g c i
def fr (S S1 : Sg) : Prop := ∀ c i, mc c → S1.1 c i = S.1 c i
def clf (S S1 : Sg) : Prop := (∀ c i, ¬ (mc c ∨ c = 342) → S1.1 c i = S.1 c i) ∧ S1.2 = S.2
theorem fr_rf {S : Sg} : fr S S := fun _ _ _ => rfl
theorem fr_tr {S S1 S2 : Sg} (h : fr S S1) (h2 : fr S1 S2) : fr S S2 := fun c i q => (h2 c i q).trans (h c i q)
theorem clf_rf {S : Sg} : clf S S := ⟨fun _ _ _ => rfl, rfl⟩
theorem clf_tr {S S1 S2 : Sg} (h : clf S S1) (h2 : clf S1 S2) : clf S S2 := ⟨fun c i q => (h2.1 c i q).trans (h.1 c i q), h2.2.trans h.2⟩
theorem mC_fr {S S1 : Sg} {g : Gm} (h : mC S g) (h2 : fr S S1) : mC S1 g := fun c i q => (h2 c i q).trans (h c i q)
theorem fr_su {S S1 : Sg} {c i : Nat} {v : Int32} (h : fr S S1) (hc : ¬ mc c) : fr S (su S1 c i v) := fun a b q => by
  rw [su_ne (Or.inl (fun e : a = c => hc (e ▸ q)))]; exact h a b q
theorem clf_su {S S1 : Sg} {c i : Nat} {v : Int32} (h : clf S S1) (hc : mc c ∨ c = 342) : clf S (su S1 c i v) := ⟨fun a b q => by
  rw [su_ne (Or.inl (fun e : a = c => q (e.symm ▸ hc)))]; exact h.1 a b q, h.2⟩
theorem mC_su {S : Sg} {g : Gm} {c i : Nat} {v : Int32} (h : mC S g) : mC (su S c i v) (gu g c i v) := fun a b q => by
  show (if a = c ∧ b = i then v else S.1 a b) = if a = c ∧ b = i then v else g a b
  rw [h a b q]
theorem mC_th {S : Sg} {g : Gm} {i : Nat} {v : Int32} (h : mC S g) : mC (su S 342 i v) g := fun a b q => by
  rw [su_ne (Or.inl (fun e => by subst e; rcases q with ⟨q1, q2⟩ | ⟨q1, q2⟩ <;> omega))]; exact h a b q
theorem gu_at {g : Gm} {c i : Nat} {v : Int32} : gu g c i v c i = v := by simp [gu]
theorem gu_ne {g : Gm} {c i c' i' : Nat} {v : Int32} (h : c' ≠ c ∨ i' ≠ i) : gu g c i v c' i' = g c' i' := by
  show (if c' = c ∧ i' = i then v else g c' i') = _
  rw [if_neg]
  rintro ⟨a, b⟩
  exact h.elim (fun q => q a) (fun q => q b)
/-! numbers -/
theorem nt_cast {x : Int32} (h : 0 ≤ x) : ((nt x : Nat) : Int) = x.toInt := Int32.cast_toNatClampNeg x h
theorem nt_inj {x y : Int32} (h : 0 ≤ x) (h2 : 0 ≤ y) : nt x = nt y ↔ x = y := by
  constructor
  · intro e
    have h3 := nt_cast h
    have h4 := nt_cast h2
    rw [e] at h3
    exact Int32.toInt_inj.mp (h3.symm.trans h4)
  · intro e; rw [e]
theorem z_le {x y : Int32} : x ≤ y ↔ x.toInt ≤ y.toInt := Int32.le_iff_toInt_le
theorem z_lt {x y : Int32} : x < y ↔ x.toInt < y.toInt := Int32.lt_iff_toInt_lt
theorem z_add {x y : Int32} (h1 : -2147483648 ≤ x.toInt + y.toInt) (h2 : x.toInt + y.toInt ≤ 2147483647) : (x + y).toInt = x.toInt + y.toInt := by
  rw [Int32.toInt_add, Int.bmod_eq_of_le (by omega) (by omega)]
theorem z_mul {x y : Int32} (h1 : -2147483648 ≤ x.toInt * y.toInt) (h2 : x.toInt * y.toInt ≤ 2147483647) : (x * y).toInt = x.toInt * y.toInt := by
  rw [Int32.toInt_mul, Int.bmod_eq_of_le (by omega) (by omega)]
theorem nt_lt32 (x : Int32) : nt x < 2147483648 := x.toNatClampNeg_lt
theorem ntS {x : Int32} (h : 0 ≤ x) (h2 : x < 2147483647) : nt (x + 1) = nt x + 1 := by
  have h3 : 0 ≤ x + 1 := by lia
  have h4 := nt_cast h
  have h5 := nt_cast h3
  have h6 := z_lt.mp h2
  have h7 := z_le.mp h
  have h8 : (2147483647 : Int32).toInt = 2147483647 := rfl
  have h9 : (0 : Int32).toInt = 0 := rfl
  have h10 : (1 : Int32).toInt = 1 := rfl
  rw [z_add (by omega) (by omega)] at h5
  omega
theorem nt_add {x y : Int32} (h : 0 ≤ x) (hy : 0 ≤ y) (hx2 : x ≤ 1000000) (hy2 : y ≤ 1000000) : nt (x + y) = nt x + nt y := by
  have h3 : 0 ≤ x + y := by lia
  have h4 := nt_cast h
  have h5 := nt_cast h3
  have h6 := nt_cast hy
  have a1 := z_le.mp h
  have a2 := z_le.mp hy
  have a3 := z_le.mp hx2
  have a4 := z_le.mp hy2
  have h8 : (1000000 : Int32).toInt = 1000000 := rfl
  have h9 : (0 : Int32).toInt = 0 := rfl
  rw [z_add (by omega) (by omega)] at h5
  omega
theorem nt_mulc {x c : Int32} (h : 0 ≤ x) (hx2 : x ≤ 1000) (hc : 0 ≤ c) (hc2 : c ≤ 1000) : nt (c * x) = nt c * nt x := by
  have h4 := nt_cast h
  have h6 := nt_cast hc
  have a1 := z_le.mp h
  have a2 := z_le.mp hc
  have a3 := z_le.mp hx2
  have a4 := z_le.mp hc2
  have h8 : (1000 : Int32).toInt = 1000 := rfl
  have h9 : (0 : Int32).toInt = 0 := rfl
  have b1 : 0 ≤ c.toInt * x.toInt := Int.mul_nonneg (by omega) (by omega)
  have b2 : c.toInt * x.toInt ≤ 1000 * 1000 := Int.mul_le_mul (by omega) (by omega) (by omega) (by omega)
  have e := z_mul (x := c) (y := x) (by omega) (by omega)
  have h3 : 0 ≤ c * x := by rw [z_le, e, h9]; exact b1
  have h5 := nt_cast h3
  rw [e, ← h4, ← h6] at h5
  exact_mod_cast h5
theorem nt_le {x : Int32} {n : Nat} (hn : n < 2147483648) (h2 : x ≤ nI n) : nt x ≤ n := by
  by_cases h : 0 ≤ x
  · have h4 := nt_cast h
    have h5 := z_le.mp h2
    rw [nI_toInt (by omega)] at h5
    omega
  · have : x.toInt < 0 := by
      have h9 : (0 : Int32).toInt = 0 := rfl
      rw [z_le, h9] at h
      omega
    show x.toInt.toNat ≤ n
    omega
theorem vp_of {x : Int32} {n : Nat} (h : 0 ≤ x) (h2 : x < nI n) (hn : n < 2147483648) : vp_in x n := by
  rw [vp_in_iff]
  have h5 := z_lt.mp h2
  rw [nI_toInt (by omega)] at h5
  have h9 : (0 : Int32).toInt = 0 := rfl
  have := z_le.mp h
  omega
theorem vp_of2 {x n : Int32} (h : 0 ≤ x) (h2 : x < n) : vp_in x (nt n) := by
  have h3 : 0 ≤ n := by lia
  rw [vp_in_iff, nt_cast h3]
  have h9 : (0 : Int32).toInt = 0 := rfl
  have := z_le.mp h
  have := z_lt.mp h2
  omega
theorem nI0 : nI 0 = 0 := rfl
theorem nI_nt0 {x : Int32} (h : 0 ≤ x) : nI (nt x) = x := nI_nt (by lia)
/-- sums -/
def sm (f : Int32 → Int32) : Nat → Int32
  | 0 => 0
  | n + 1 => sm f n + f (nI n)
theorem sm_congr {f f2 : Int32 → Int32} : ∀ {n : Nat}, n < 2147483648 → (∀ x, 0 ≤ x → x < nI n → f x = f2 x) → sm f n = sm f2 n
  | 0, _, _ => rfl
  | n + 1, hn, h => by
    have e : nI (n + 1) = nI n + 1 := nI_succ n
    have h1 : (nI n).toInt = n := nI_toInt (by omega)
    have h2 : (nI (n + 1)).toInt = n + 1 := by have := nI_toInt (n := n + 1) (by omega); omega
    have h9 : (0 : Int32).toInt = 0 := rfl
    show sm f n + f (nI n) = sm f2 n + f2 (nI n)
    rw [h (nI n) (by rw [z_le]; omega) (by rw [z_lt]; omega), sm_congr (by omega) (fun x h3 h4 => h x h3 (by rw [z_lt] at h4 ⊢; omega))]
theorem sm_succ {f : Int32 → Int32} {x : Int32} (h : 0 ≤ x) (h2 : x < 2147483647) : sm f (nt (x + 1)) = sm f (nt x) + f x := by
  rw [ntS h h2]
  show sm f (nt x) + f (nI (nt x)) = _
  rw [nI_nt0 h]
/-! what is read off g -/
def wd (g : Gm) (s : Int32) : Int32 := g 103 (nt (g 123 (nt s))) * g 104 (nt (g 123 (nt s)))
def en (g : Gm) (s : Int32) : Int32 := g 124 (nt s) + g 108 (nt (g 122 (nt s)))
def pf (g : Gm) (s : Int32) : Int32 := sm (fun t => if g 137 (nt t) = s then g 140 (nt t) else 0) (nt (g 336 0))
def plv (g : Gm) (s p : Int32) : Int32 := if g 126 (nt (48 * s + p)) = -1 then (if g 127 (nt (48 * s + p)) = -1 then -1 else 1000 + g 127 (nt (48 * s + p))) else g 126 (nt (48 * s + p))
def colT : List (Nat × Nat × Nat) := [(21, 103, 302), (22, 104, 302), (23, 105, 302), (24, 106, 302), (31, 108, 307), (32, 109, 307), (33, 110, 307), (34, 111, 307), (35, 112, 307), (36, 113, 307), (37, 114, 307), (38, 115, 307), (40, 117, 316), (41, 118, 316), (42, 119, 316), (43, 120, 316), (51, 122, 321), (52, 123, 321), (53, 124, 321), (56, 125, 321), (82, 128, 321), (60, 132, 331), (61, 133, 331), (62, 134, 331), (63, 135, 331), (70, 137, 336), (71, 138, 336), (72, 139, 336), (73, 140, 336), (74, 141, 336)]
def idT : List (Nat × Nat) := [(20, 302), (30, 307), (50, 321), (54, 321), (55, 321), (80, 321)]
def scT : List (Nat × Nat × Nat) := [(12, 0, 302), (12, 1, 307), (12, 2, 316), (12, 3, 321), (12, 4, 331), (12, 5, 336), (10, 3, 302), (10, 4, 307), (10, 5, 316), (10, 6, 321), (10, 7, 331), (10, 8, 336), (10, 9, 321), (10, 10, 321), (10, 11, 321), (6, 0, 300), (7, 0, 301)]
def cCol (S : Sg) (g : Gm) : Prop := ∀ q ∈ colT, ∀ i : Int32, 0 ≤ i → i < g q.2.2 0 → S.1 q.1 (nt i) = g q.2.1 (nt i)
def cId (S : Sg) (g : Gm) : Prop := ∀ q ∈ idT, ∀ i : Int32, 0 ≤ i → i < g q.2 0 → S.1 q.1 (nt i) = i
def cSc (S : Sg) (g : Gm) : Prop := ∀ q ∈ scT, S.1 q.1 q.2.1 = g q.2.2 0
def cRow (S : Sg) : Prop := ∀ j, j < 6 → S.1 13 j = nE ∨ ¬ S.1 13 j < 0
def cPaid (S : Sg) (g : Gm) : Prop := ∀ s : Int32, 0 ≤ s → s < g 321 0 → S.1 57 (nt s) = pf g s
def cLen (S : Sg) (g : Gm) : Prop := ∀ s : Int32, 0 ≤ s → s < g 321 0 → S.1 58 (nt s) = wd g s
def cLine (S : Sg) (g : Gm) : Prop := ∀ s : Int32, 0 ≤ s → s < g 321 0 → 0 ≤ S.1 81 (nt s) ∧ S.1 81 (nt s) ≤ g 128 (nt s) ∧ ∀ k : Int32, 0 ≤ k → k < g 128 (nt s) → S.1 (1001 + 2 * nt s) (nt k) = g 129 (nt (40 * s + k)) ∧ g 130 (nt (40 * s + k)) = if k < S.1 81 (nt s) then 1 else 0
def cPl (S : Sg) (g : Gm) : Prop := ∀ s p : Int32, 0 ≤ s → s < g 321 0 → 0 ≤ p → p < wd g s → S.1 (1000 + 2 * nt s) (nt p) = plv g s p
def cC (S : Sg) (g : Gm) : Prop := cCol S g ∧ cId S g ∧ cSc S g ∧ cRow S ∧ cPaid S g ∧ cLen S g ∧ cLine S g ∧ cPl S g
theorem c_21 {S : Sg} {g : Gm} (h : cC S g) {i : Int32} (h0 : 0 ≤ i) (h1 : i < g 302 0) : S.1 21 (nt i) = g 103 (nt i) := h.1 (21, 103, 302) (by decide) i h0 h1
theorem c_22 {S : Sg} {g : Gm} (h : cC S g) {i : Int32} (h0 : 0 ≤ i) (h1 : i < g 302 0) : S.1 22 (nt i) = g 104 (nt i) := h.1 (22, 104, 302) (by decide) i h0 h1
theorem c_23 {S : Sg} {g : Gm} (h : cC S g) {i : Int32} (h0 : 0 ≤ i) (h1 : i < g 302 0) : S.1 23 (nt i) = g 105 (nt i) := h.1 (23, 105, 302) (by decide) i h0 h1
theorem c_24 {S : Sg} {g : Gm} (h : cC S g) {i : Int32} (h0 : 0 ≤ i) (h1 : i < g 302 0) : S.1 24 (nt i) = g 106 (nt i) := h.1 (24, 106, 302) (by decide) i h0 h1
theorem c_31 {S : Sg} {g : Gm} (h : cC S g) {i : Int32} (h0 : 0 ≤ i) (h1 : i < g 307 0) : S.1 31 (nt i) = g 108 (nt i) := h.1 (31, 108, 307) (by decide) i h0 h1
theorem c_32 {S : Sg} {g : Gm} (h : cC S g) {i : Int32} (h0 : 0 ≤ i) (h1 : i < g 307 0) : S.1 32 (nt i) = g 109 (nt i) := h.1 (32, 109, 307) (by decide) i h0 h1
theorem c_33 {S : Sg} {g : Gm} (h : cC S g) {i : Int32} (h0 : 0 ≤ i) (h1 : i < g 307 0) : S.1 33 (nt i) = g 110 (nt i) := h.1 (33, 110, 307) (by decide) i h0 h1
theorem c_34 {S : Sg} {g : Gm} (h : cC S g) {i : Int32} (h0 : 0 ≤ i) (h1 : i < g 307 0) : S.1 34 (nt i) = g 111 (nt i) := h.1 (34, 111, 307) (by decide) i h0 h1
theorem c_35 {S : Sg} {g : Gm} (h : cC S g) {i : Int32} (h0 : 0 ≤ i) (h1 : i < g 307 0) : S.1 35 (nt i) = g 112 (nt i) := h.1 (35, 112, 307) (by decide) i h0 h1
theorem c_36 {S : Sg} {g : Gm} (h : cC S g) {i : Int32} (h0 : 0 ≤ i) (h1 : i < g 307 0) : S.1 36 (nt i) = g 113 (nt i) := h.1 (36, 113, 307) (by decide) i h0 h1
theorem c_37 {S : Sg} {g : Gm} (h : cC S g) {i : Int32} (h0 : 0 ≤ i) (h1 : i < g 307 0) : S.1 37 (nt i) = g 114 (nt i) := h.1 (37, 114, 307) (by decide) i h0 h1
theorem c_38 {S : Sg} {g : Gm} (h : cC S g) {i : Int32} (h0 : 0 ≤ i) (h1 : i < g 307 0) : S.1 38 (nt i) = g 115 (nt i) := h.1 (38, 115, 307) (by decide) i h0 h1
theorem c_40 {S : Sg} {g : Gm} (h : cC S g) {i : Int32} (h0 : 0 ≤ i) (h1 : i < g 316 0) : S.1 40 (nt i) = g 117 (nt i) := h.1 (40, 117, 316) (by decide) i h0 h1
theorem c_41 {S : Sg} {g : Gm} (h : cC S g) {i : Int32} (h0 : 0 ≤ i) (h1 : i < g 316 0) : S.1 41 (nt i) = g 118 (nt i) := h.1 (41, 118, 316) (by decide) i h0 h1
theorem c_42 {S : Sg} {g : Gm} (h : cC S g) {i : Int32} (h0 : 0 ≤ i) (h1 : i < g 316 0) : S.1 42 (nt i) = g 119 (nt i) := h.1 (42, 119, 316) (by decide) i h0 h1
theorem c_43 {S : Sg} {g : Gm} (h : cC S g) {i : Int32} (h0 : 0 ≤ i) (h1 : i < g 316 0) : S.1 43 (nt i) = g 120 (nt i) := h.1 (43, 120, 316) (by decide) i h0 h1
theorem c_51 {S : Sg} {g : Gm} (h : cC S g) {i : Int32} (h0 : 0 ≤ i) (h1 : i < g 321 0) : S.1 51 (nt i) = g 122 (nt i) := h.1 (51, 122, 321) (by decide) i h0 h1
theorem c_52 {S : Sg} {g : Gm} (h : cC S g) {i : Int32} (h0 : 0 ≤ i) (h1 : i < g 321 0) : S.1 52 (nt i) = g 123 (nt i) := h.1 (52, 123, 321) (by decide) i h0 h1
theorem c_53 {S : Sg} {g : Gm} (h : cC S g) {i : Int32} (h0 : 0 ≤ i) (h1 : i < g 321 0) : S.1 53 (nt i) = g 124 (nt i) := h.1 (53, 124, 321) (by decide) i h0 h1
theorem c_56 {S : Sg} {g : Gm} (h : cC S g) {i : Int32} (h0 : 0 ≤ i) (h1 : i < g 321 0) : S.1 56 (nt i) = g 125 (nt i) := h.1 (56, 125, 321) (by decide) i h0 h1
theorem c_82 {S : Sg} {g : Gm} (h : cC S g) {i : Int32} (h0 : 0 ≤ i) (h1 : i < g 321 0) : S.1 82 (nt i) = g 128 (nt i) := h.1 (82, 128, 321) (by decide) i h0 h1
theorem c_60 {S : Sg} {g : Gm} (h : cC S g) {i : Int32} (h0 : 0 ≤ i) (h1 : i < g 331 0) : S.1 60 (nt i) = g 132 (nt i) := h.1 (60, 132, 331) (by decide) i h0 h1
theorem c_61 {S : Sg} {g : Gm} (h : cC S g) {i : Int32} (h0 : 0 ≤ i) (h1 : i < g 331 0) : S.1 61 (nt i) = g 133 (nt i) := h.1 (61, 133, 331) (by decide) i h0 h1
theorem c_62 {S : Sg} {g : Gm} (h : cC S g) {i : Int32} (h0 : 0 ≤ i) (h1 : i < g 331 0) : S.1 62 (nt i) = g 134 (nt i) := h.1 (62, 134, 331) (by decide) i h0 h1
theorem c_63 {S : Sg} {g : Gm} (h : cC S g) {i : Int32} (h0 : 0 ≤ i) (h1 : i < g 331 0) : S.1 63 (nt i) = g 135 (nt i) := h.1 (63, 135, 331) (by decide) i h0 h1
theorem c_70 {S : Sg} {g : Gm} (h : cC S g) {i : Int32} (h0 : 0 ≤ i) (h1 : i < g 336 0) : S.1 70 (nt i) = g 137 (nt i) := h.1 (70, 137, 336) (by decide) i h0 h1
theorem c_71 {S : Sg} {g : Gm} (h : cC S g) {i : Int32} (h0 : 0 ≤ i) (h1 : i < g 336 0) : S.1 71 (nt i) = g 138 (nt i) := h.1 (71, 138, 336) (by decide) i h0 h1
theorem c_72 {S : Sg} {g : Gm} (h : cC S g) {i : Int32} (h0 : 0 ≤ i) (h1 : i < g 336 0) : S.1 72 (nt i) = g 139 (nt i) := h.1 (72, 139, 336) (by decide) i h0 h1
theorem c_73 {S : Sg} {g : Gm} (h : cC S g) {i : Int32} (h0 : 0 ≤ i) (h1 : i < g 336 0) : S.1 73 (nt i) = g 140 (nt i) := h.1 (73, 140, 336) (by decide) i h0 h1
theorem c_74 {S : Sg} {g : Gm} (h : cC S g) {i : Int32} (h0 : 0 ≤ i) (h1 : i < g 336 0) : S.1 74 (nt i) = g 141 (nt i) := h.1 (74, 141, 336) (by decide) i h0 h1
theorem c_20 {S : Sg} {g : Gm} (h : cC S g) {i : Int32} (h0 : 0 ≤ i) (h1 : i < g 302 0) : S.1 20 (nt i) = i := h.2.1 (20, 302) (by decide) i h0 h1
theorem c_30 {S : Sg} {g : Gm} (h : cC S g) {i : Int32} (h0 : 0 ≤ i) (h1 : i < g 307 0) : S.1 30 (nt i) = i := h.2.1 (30, 307) (by decide) i h0 h1
theorem c_50 {S : Sg} {g : Gm} (h : cC S g) {i : Int32} (h0 : 0 ≤ i) (h1 : i < g 321 0) : S.1 50 (nt i) = i := h.2.1 (50, 321) (by decide) i h0 h1
theorem c_54 {S : Sg} {g : Gm} (h : cC S g) {i : Int32} (h0 : 0 ≤ i) (h1 : i < g 321 0) : S.1 54 (nt i) = i := h.2.1 (54, 321) (by decide) i h0 h1
theorem c_55 {S : Sg} {g : Gm} (h : cC S g) {i : Int32} (h0 : 0 ≤ i) (h1 : i < g 321 0) : S.1 55 (nt i) = i := h.2.1 (55, 321) (by decide) i h0 h1
theorem c_80 {S : Sg} {g : Gm} (h : cC S g) {i : Int32} (h0 : 0 ≤ i) (h1 : i < g 321 0) : S.1 80 (nt i) = i := h.2.1 (80, 321) (by decide) i h0 h1
theorem c_12_0 {S : Sg} {g : Gm} (h : cC S g) : S.1 12 0 = g 302 0 := h.2.2.1 (12, 0, 302) (by decide)
theorem c_12_1 {S : Sg} {g : Gm} (h : cC S g) : S.1 12 1 = g 307 0 := h.2.2.1 (12, 1, 307) (by decide)
theorem c_12_2 {S : Sg} {g : Gm} (h : cC S g) : S.1 12 2 = g 316 0 := h.2.2.1 (12, 2, 316) (by decide)
theorem c_12_3 {S : Sg} {g : Gm} (h : cC S g) : S.1 12 3 = g 321 0 := h.2.2.1 (12, 3, 321) (by decide)
theorem c_12_4 {S : Sg} {g : Gm} (h : cC S g) : S.1 12 4 = g 331 0 := h.2.2.1 (12, 4, 331) (by decide)
theorem c_12_5 {S : Sg} {g : Gm} (h : cC S g) : S.1 12 5 = g 336 0 := h.2.2.1 (12, 5, 336) (by decide)
theorem c_10_3 {S : Sg} {g : Gm} (h : cC S g) : S.1 10 3 = g 302 0 := h.2.2.1 (10, 3, 302) (by decide)
theorem c_10_4 {S : Sg} {g : Gm} (h : cC S g) : S.1 10 4 = g 307 0 := h.2.2.1 (10, 4, 307) (by decide)
theorem c_10_5 {S : Sg} {g : Gm} (h : cC S g) : S.1 10 5 = g 316 0 := h.2.2.1 (10, 5, 316) (by decide)
theorem c_10_6 {S : Sg} {g : Gm} (h : cC S g) : S.1 10 6 = g 321 0 := h.2.2.1 (10, 6, 321) (by decide)
theorem c_10_7 {S : Sg} {g : Gm} (h : cC S g) : S.1 10 7 = g 331 0 := h.2.2.1 (10, 7, 331) (by decide)
theorem c_10_8 {S : Sg} {g : Gm} (h : cC S g) : S.1 10 8 = g 336 0 := h.2.2.1 (10, 8, 336) (by decide)
theorem c_10_9 {S : Sg} {g : Gm} (h : cC S g) : S.1 10 9 = g 321 0 := h.2.2.1 (10, 9, 321) (by decide)
theorem c_10_10 {S : Sg} {g : Gm} (h : cC S g) : S.1 10 10 = g 321 0 := h.2.2.1 (10, 10, 321) (by decide)
theorem c_10_11 {S : Sg} {g : Gm} (h : cC S g) : S.1 10 11 = g 321 0 := h.2.2.1 (10, 11, 321) (by decide)
theorem c_6_0 {S : Sg} {g : Gm} (h : cC S g) : S.1 6 0 = g 300 0 := h.2.2.1 (6, 0, 300) (by decide)
theorem c_7_0 {S : Sg} {g : Gm} (h : cC S g) : S.1 7 0 = g 301 0 := h.2.2.1 (7, 0, 301) (by decide)
theorem c_13 {S : Sg} {g : Gm} (h : cC S g) {j : Nat} (hj : j < 6) : S.1 13 j = nE ∨ ¬ S.1 13 j < 0 := h.2.2.2.1 j hj
theorem c_57 {S : Sg} {g : Gm} (h : cC S g) {s : Int32} (h0 : 0 ≤ s) (h1 : s < g 321 0) : S.1 57 (nt s) = pf g s := h.2.2.2.2.1 s h0 h1
theorem c_58 {S : Sg} {g : Gm} (h : cC S g) {s : Int32} (h0 : 0 ≤ s) (h1 : s < g 321 0) : S.1 58 (nt s) = wd g s := h.2.2.2.2.2.1 s h0 h1
theorem c_pl {S : Sg} {g : Gm} (h : cC S g) {s p : Int32} (h0 : 0 ≤ s) (h1 : s < g 321 0) (h2 : 0 ≤ p) (h3 : p < wd g s) : S.1 (1000 + 2 * nt s) (nt p) = plv g s p := h.2.2.2.2.2.2.2 s p h0 h1 h2 h3
theorem c_ln {S : Sg} {g : Gm} (h : cC S g) {s : Int32} (h0 : 0 ≤ s) (h1 : s < g 321 0) : 0 ≤ S.1 81 (nt s) ∧ S.1 81 (nt s) ≤ g 128 (nt s) ∧ ∀ k : Int32, 0 ≤ k → k < g 128 (nt s) → S.1 (1001 + 2 * nt s) (nt k) = g 129 (nt (40 * s + k)) ∧ g 130 (nt (40 * s + k)) = if k < S.1 81 (nt s) then 1 else 0 := h.2.2.2.2.2.2.1 s h0 h1
/-! the invariant -/
def I_n (g : Gm) : Prop := 0 ≤ g 300 0 ∧ g 300 0 ≤ 100000 ∧ 0 ≤ g 301 0 ∧ g 301 0 ≤ 60 ∧ 0 ≤ g 302 0 ∧ g 302 0 ≤ 4 ∧ 0 ≤ g 307 0 ∧ g 307 0 ≤ 8 ∧ 0 ≤ g 316 0 ∧ g 316 0 ≤ 30 ∧ 0 ≤ g 321 0 ∧ g 321 0 ≤ 30 ∧ 0 ≤ g 331 0 ∧ g 331 0 ≤ 100 ∧ 0 ≤ g 336 0 ∧ g 336 0 ≤ 400
def I_h (g : Gm) : Prop := ∀ i : Int32, 0 ≤ i → i < g 302 0 → 1 ≤ g 103 (nt i) ∧ g 103 (nt i) ≤ 6 ∧ 1 ≤ g 104 (nt i) ∧ g 104 (nt i) ≤ 8
def I_hu (g : Gm) : Prop := ∀ i : Int32, g 302 0 ≤ i → i < 4 → g 105 (nt i) = 0
def I_f (g : Gm) : Prop := ∀ i : Int32, 0 ≤ i → i < g 307 0 → 30 ≤ g 108 (nt i) ∧ g 108 (nt i) ≤ 240 ∧ 0 ≤ g 109 (nt i) ∧ g 109 (nt i) ≤ 18 ∧ 1 ≤ g 110 (nt i) ∧ g 110 (nt i) ≤ 999 ∧ 0 ≤ g 111 (nt i) ∧ g 111 (nt i) ≤ 100 ∧ 0 ≤ g 112 (nt i) ∧ g 112 (nt i) ≤ 100 ∧ 0 ≤ g 113 (nt i) ∧ g 113 (nt i) ≤ 100 ∧ 0 ≤ g 114 (nt i) ∧ g 114 (nt i) ≤ 100000
def I_fu (g : Gm) : Prop := ∀ i : Int32, g 307 0 ≤ i → i < 8 → g 112 (nt i) = 0 ∧ g 114 (nt i) = 0 ∧ g 115 (nt i) = 0
def I_s (g : Gm) : Prop := ∀ i : Int32, 0 ≤ i → i < g 321 0 → 0 ≤ g 122 (nt i) ∧ g 122 (nt i) < g 307 0 ∧ 0 ≤ g 123 (nt i) ∧ g 123 (nt i) < g 302 0 ∧ 1 ≤ g 124 (nt i) ∧ g 124 (nt i) ≤ 100000 ∧ 0 ≤ g 125 (nt i) ∧ g 125 (nt i) ≤ 4 ∧ 0 ≤ g 128 (nt i) ∧ g 128 (nt i) ≤ 40
def I_su (g : Gm) : Prop := ∀ i : Int32, g 321 0 ≤ i → i < 30 → g 125 (nt i) = 0 ∧ g 128 (nt i) = 0
abbrev on (g : Gm) (s : Int32) : Prop := g 125 (nt s) = 0 ∨ g 125 (nt s) = 1
def I_ov (g : Gm) : Prop := ∀ i j : Int32, 0 ≤ i → i < g 321 0 → 0 ≤ j → j < g 321 0 → i ≠ j → on g i → on g j → g 123 (nt i) = g 123 (nt j) → en g i + 20 ≤ g 124 (nt j) ∨ en g j + 20 ≤ g 124 (nt i)
def I_pl (g : Gm) : Prop := ∀ s p : Int32, 0 ≤ s → s < 30 → 0 ≤ p → p < 48 → (g 126 (nt (48 * s + p)) = -1 ∨ (0 ≤ g 126 (nt (48 * s + p)) ∧ g 126 (nt (48 * s + p)) < g 336 0 ∧ g 127 (nt (48 * s + p)) = -1 ∧ s < g 321 0 ∧ p < wd g s)) ∧ (g 127 (nt (48 * s + p)) = -1 ∨ (0 ≤ g 127 (nt (48 * s + p)) ∧ g 127 (nt (48 * s + p)) < g 331 0 ∧ s < g 321 0 ∧ p < wd g s))
def I_o (g : Gm) : Prop := ∀ k : Int32, 0 ≤ k → k < g 331 0 → 0 ≤ g 132 (nt k) ∧ g 132 (nt k) < g 321 0 ∧ 0 ≤ g 133 (nt k) ∧ g 133 (nt k) < wd g (g 132 (nt k)) ∧ (g 135 (nt k) = 0 ∨ g 135 (nt k) = 1) ∧ (g 135 (nt k) = 0 → g 125 (nt (g 132 (nt k))) = 0 ∧ g 134 (nt k) ≤ g 124 (nt (g 132 (nt k))) ∧ g 127 (nt (48 * g 132 (nt k) + g 133 (nt k))) = k)
def I_ou (g : Gm) : Prop := ∀ k : Int32, g 331 0 ≤ k → k < 100 → g 135 (nt k) = 0
def I_t (g : Gm) : Prop := ∀ t : Int32, 0 ≤ t → t < g 336 0 → 0 ≤ g 137 (nt t) ∧ g 137 (nt t) < g 321 0 ∧ 0 ≤ g 138 (nt t) ∧ g 138 (nt t) < wd g (g 137 (nt t)) ∧ (g 141 (nt t) = 0 ∨ g 141 (nt t) = 1) ∧ 0 ≤ g 140 (nt t) ∧ g 140 (nt t) ≤ 999 ∧ (g 141 (nt t) = 1 → g 140 (nt t) = 0) ∧ (g 141 (nt t) = 0 → g 126 (nt (48 * g 137 (nt t) + g 138 (nt t))) = t)
def I_tu (g : Gm) : Prop := ∀ t : Int32, g 336 0 ≤ t → t < 400 → g 141 (nt t) = 0
def I_l (g : Gm) : Prop := ∀ s : Int32, 0 ≤ s → s < g 321 0 → ∀ k : Int32, 0 ≤ k → k < g 128 (nt s) → g 130 (nt (40 * s + k)) = 0 ∨ g 130 (nt (40 * s + k)) = 1
def Ia (g : Gm) : Prop := I_n g ∧ I_h g ∧ I_hu g ∧ I_f g ∧ I_fu g ∧ I_s g ∧ I_su g ∧ I_ov g ∧ I_pl g ∧ I_o g ∧ I_ou g ∧ I_t g ∧ I_tu g ∧ I_l g
def It (g : Gm) : Prop := (∀ k : Int32, 0 ≤ k → k < g 331 0 → g 135 (nt k) = 0 → g 300 0 < g 134 (nt k)) ∧ (∀ s : Int32, 0 ≤ s → s < g 321 0 → (g 125 (nt s) = 0 → g 300 0 < g 124 (nt s)) ∧ (g 125 (nt s) = 1 → g 124 (nt s) ≤ g 300 0 ∧ g 300 0 < en g s))
def Iv (g : Gm) : Prop := Ia g ∧ It g
theorem i_n {g : Gm} (h : Iv g) : I_n g := h.1.1
theorem ia_n {g : Gm} (h : Ia g) : I_n g := h.1
theorem i_h {g : Gm} (h : Iv g) : I_h g := h.1.2.1
theorem ia_h {g : Gm} (h : Ia g) : I_h g := h.2.1
theorem i_hu {g : Gm} (h : Iv g) : I_hu g := h.1.2.2.1
theorem ia_hu {g : Gm} (h : Ia g) : I_hu g := h.2.2.1
theorem i_f {g : Gm} (h : Iv g) : I_f g := h.1.2.2.2.1
theorem ia_f {g : Gm} (h : Ia g) : I_f g := h.2.2.2.1
theorem i_fu {g : Gm} (h : Iv g) : I_fu g := h.1.2.2.2.2.1
theorem ia_fu {g : Gm} (h : Ia g) : I_fu g := h.2.2.2.2.1
theorem i_s {g : Gm} (h : Iv g) : I_s g := h.1.2.2.2.2.2.1
theorem ia_s {g : Gm} (h : Ia g) : I_s g := h.2.2.2.2.2.1
theorem i_su {g : Gm} (h : Iv g) : I_su g := h.1.2.2.2.2.2.2.1
theorem ia_su {g : Gm} (h : Ia g) : I_su g := h.2.2.2.2.2.2.1
theorem i_ov {g : Gm} (h : Iv g) : I_ov g := h.1.2.2.2.2.2.2.2.1
theorem ia_ov {g : Gm} (h : Ia g) : I_ov g := h.2.2.2.2.2.2.2.1
theorem i_pl {g : Gm} (h : Iv g) : I_pl g := h.1.2.2.2.2.2.2.2.2.1
theorem ia_pl {g : Gm} (h : Ia g) : I_pl g := h.2.2.2.2.2.2.2.2.1
theorem i_o {g : Gm} (h : Iv g) : I_o g := h.1.2.2.2.2.2.2.2.2.2.1
theorem ia_o {g : Gm} (h : Ia g) : I_o g := h.2.2.2.2.2.2.2.2.2.1
theorem i_ou {g : Gm} (h : Iv g) : I_ou g := h.1.2.2.2.2.2.2.2.2.2.2.1
theorem ia_ou {g : Gm} (h : Ia g) : I_ou g := h.2.2.2.2.2.2.2.2.2.2.1
theorem i_t {g : Gm} (h : Iv g) : I_t g := h.1.2.2.2.2.2.2.2.2.2.2.2.1
theorem ia_t {g : Gm} (h : Ia g) : I_t g := h.2.2.2.2.2.2.2.2.2.2.2.1
theorem i_tu {g : Gm} (h : Iv g) : I_tu g := h.1.2.2.2.2.2.2.2.2.2.2.2.2.1
theorem ia_tu {g : Gm} (h : Ia g) : I_tu g := h.2.2.2.2.2.2.2.2.2.2.2.2.1
theorem i_l {g : Gm} (h : Iv g) : I_l g := h.1.2.2.2.2.2.2.2.2.2.2.2.2.2
theorem ia_l {g : Gm} (h : Ia g) : I_l g := h.2.2.2.2.2.2.2.2.2.2.2.2.2
/-! the budget: n calls were made -/
def bz (S : Sg) : Nat := nt (S.1 12 0) + nt (S.1 12 1) + nt (S.1 12 2) + nt (S.1 12 3) + nt (S.1 12 4) + nt (S.1 12 5)
def Bd (n : Nat) (S : Sg) : Prop := S.2.1 ≤ 100 + n + 5 * bz S ∧ S.2.2 ≤ 20000 + 6 * n + 900 * bz S
theorem bz_le {S : Sg} {g : Gm} (hC : cC S g) (hI : I_n g) : bz S ≤ 572 := by
  unfold bz
  rw [c_12_0 hC, c_12_1 hC, c_12_2 hC, c_12_3 hC, c_12_4 hC, c_12_5 hC]
  obtain ⟨-, -, -, -, -, h1, -, h2, -, h3, -, h4, -, h5, -, h6⟩ := hI
  have a1 := nt_le (n := 4) (by omega) h1
  have a2 := nt_le (n := 8) (by omega) h2
  have a3 := nt_le (n := 30) (by omega) h3
  have a4 := nt_le (n := 30) (by omega) h4
  have a5 := nt_le (n := 100) (by omega) h5
  have a6 := nt_le (n := 400) (by omega) h6
  omega
theorem bd_room {n : Nat} {S : Sg} {g : Gm} (hB : Bd n S) (hn : n ≤ 20000) (hC : cC S g) (hI : I_n g) : S.2.1 + 500 ≤ nB1 ∧ S.2.2 + 20000 ≤ nB2 := by
  have := bz_le hC hI
  obtain ⟨h1, h2⟩ := hB
  show _ ≤ 600074 ∧ _ ≤ 7301550
  omega
theorem bd_tS {n : Nat} {S : Sg} (hB : Bd n S) : Bd (n + 1) (tS S) := by
  obtain ⟨h1, h2⟩ := hB
  have e : bz (tS S) = bz S := rfl
  refine ⟨?_, ?_⟩
  · rw [e]; show S.2.1 + 1 ≤ _; omega
  · rw [e]; show S.2.2 + 6 ≤ _; omega
theorem bd_up {n : Nat} {S : Sg} (hB : Bd n S) : Bd (n + 1) S := ⟨by have := hB.1; omega, by have := hB.2; omega⟩
theorem cC_1 {S S1 : Sg} {g : Gm} (h : cC S g) (e : S1.1 = S.1) : cC S1 g := by
  unfold cC cCol cId cSc cRow cPaid cLen cLine cPl at h ⊢
  rw [e]; exact h
theorem cC_clf {S S1 : Sg} {g : Gm} (h : cC S g) (e : clf S S1) : cC S1 g := by
  have k : ∀ c i, c < 103 ∨ 1000 ≤ c → S1.1 c i = S.1 c i := fun c i q => e.1 c i (by unfold mc; omega)
  obtain ⟨h1, h2, h3, h4, h5, h6, h7, h8⟩ := h
  have z1 : ∀ q ∈ colT, q.1 < 103 := by decide
  have z2 : ∀ q ∈ idT, q.1 < 103 := by decide
  have z3 : ∀ q ∈ scT, q.1 < 103 := by decide
  refine ⟨fun q hq i a b => ?_, fun q hq i a b => ?_, fun q hq => ?_, fun j hj => ?_, fun s a b => ?_, fun s a b => ?_, fun s a b => ?_, fun s p a b c d => ?_⟩
  · rw [k _ _ (Or.inl (z1 q hq))]; exact h1 q hq i a b
  · rw [k _ _ (Or.inl (z2 q hq))]; exact h2 q hq i a b
  · rw [k _ _ (Or.inl (z3 q hq))]; exact h3 q hq
  · rw [k _ _ (by omega)]; exact h4 j hj
  · rw [k _ _ (by omega)]; exact h5 s a b
  · rw [k _ _ (by omega)]; exact h6 s a b
  · rw [k _ _ (by omega)]
    obtain ⟨q1, q2, q3⟩ := h7 s a b
    exact ⟨q1, q2, fun k9 a9 b9 => by rw [k _ _ (by omega)]; exact q3 k9 a9 b9⟩
  · rw [k _ _ (by omega)]; exact h8 s p a b c d
