/-! breaks: both sides -/
theorem gu_self {g : Gm} {c i : Nat} {v : Int32} (h : v = g c i) : gu g c i v = g := by
  funext a b
  by_cases e : a = c ∧ b = i
  · rw [e.1, e.2, gu_at, h]
  · exact gu_ne (by by_cases z : a = c; exact Or.inr (fun u => e ⟨z, u⟩); exact Or.inl z)
def gBk (g : Gm) (s : Int32) (i : Nat) : Gm := fun c j => if c = 140 ∧ j < i then g 140 j - bkT g s (nI j) else g c j
theorem bk_0 {g : Gm} {s : Int32} : gBk g s 0 = g := by
  funext c j
  unfold gBk
  rw [if_neg (by omega)]
theorem bk_step {g : Gm} {s t v : Int32} (t0 : 0 ≤ t) (hv : v = g 140 (nt t) - bkT g s t) : gu (gBk g s (nt t)) 140 (nt t) v = gBk g s (nt t + 1) := by
  funext c j
  by_cases e : c = 140 ∧ j = nt t
  · rw [e.1, e.2, gu_at, hv]
    unfold gBk
    rw [if_pos (by omega), nI_nt0 t0]
  · rw [gu_ne (by by_cases z : c = 140; exact Or.inr (fun u => e ⟨z, u⟩); exact Or.inl z)]
    unfold gBk
    by_cases e2 : c = 140 ∧ j < nt t
    · rw [if_pos e2, if_pos (by omega)]
    · rw [if_neg e2, if_neg (by omega)]
theorem bk_140 {g : Gm} {s : Int32} {i : Nat} : gBk g s i 140 i = g 140 i := if_neg (by omega)
theorem bk_end {g : Gm} {s : Int32} : gu (gu (gBk g s (nt (g 336 0))) 105 (nt (g 123 (nt s))) (g 105 (nt (g 123 (nt s))) + (g 300 0 - g 124 (nt s)))) 125 (nt s) 3 = gBreaks g s := by
  funext c j
  unfold gBreaks
  by_cases a : c = 125 ∧ j = nt s
  · rw [if_neg (by omega), if_neg (by omega), if_pos a, a.1, a.2, gu_at]
  · rw [gu_ne (by by_cases z : c = 125; exact Or.inr (fun u => a ⟨z, u⟩); exact Or.inl z)]
    by_cases b : c = 105 ∧ j = nt (g 123 (nt s))
    · rw [if_neg (by omega), if_pos b, b.1, b.2, gu_at]
    · rw [gu_ne (by by_cases z : c = 105; exact Or.inr (fun u => b ⟨z, u⟩); exact Or.inl z)]
      unfold gBk
      by_cases d : c = 140 ∧ j < nt (g 336 0)
      · rw [if_pos d, if_pos d]
      · rw [if_neg d, if_neg d, if_neg b, if_neg a]
section BK
variable {n : Nat} {g : Gm} {S S0 : Sg} {Q : Nat → Int32 → Sg → Prop}
theorem payBack_ok {t amt : Int32} (hC : cC S g) (n3 : 0 ≤ g 336 0 ∧ g 336 0 ≤ 400) (s0 : 0 ≤ g 137 (nt t)) (s1 : g 137 (nt t) < g 321 0) (t0 : 0 ≤ t) (t1 : t < g 336 0) (q : ∀ S1, cC S1 (gu g 140 (nt t) (g 140 (nt t) - amt)) → fr S S1 → S1.2 = S.2 → (∀ i, S1.1 12 i = S.1 12 i) → Q 0 amt S1) : w_X6_payBack t amt S Q := by
  unfold w_X6_payBack
  rintro T1 rfl
  have y70 : (su S 73 (nt t) (S.1 73 (nt t) - amt)).1 70 (nt t) = g 137 (nt t) := by rw [su_ne (Or.inl (by decide))]; exact c_70 hC t0 t1
  have y57 : (su S 73 (nt t) (S.1 73 (nt t) - amt)).1 57 (nt (g 137 (nt t))) = S.1 57 (nt (g 137 (nt t))) := su_ne (Or.inl (by decide))
  rw [y70, y57, c_73 hC t0 t1]
  refine ⟨by lia, ?_⟩
  rintro T2 rfl
  have k := cC_pay (v := g 140 (nt t) - amt) hC n3 s0 s1 t0 t1
  rw [show S.1 57 (nt (g 137 (nt t))) + (g 140 (nt t) - amt - g 140 (nt t)) = S.1 57 (nt (g 137 (nt t))) - amt by lia] at k
  exact q _ k (fr_su (fr_su fr_rf (by unfold mc; omega)) (by unfold mc; omega)) rfl (fun i => by rw [su_ne (Or.inl (by decide)), su_ne (Or.inl (by decide))])
theorem cls_breaks {s : Int32} (hC : cC S g) (hI : Iv g) (hB : Bd n S) (hn : n < 20000) (hQ : cPost n (rBreaks g s) S Q) : w_X7_breaks s S Q := by
  have n3 := n336 (i_n hI)
  have hI1 := hI.1
  unfold w_X7_breaks
  refine showAt_ok hC (fun r1 => kz ?_) (fun r1 => cThr1 (by decide) hC hI hB hn (cP_of hQ (if_neg r1)))
  obtain ⟨s0, s1⟩ := r1
  obtain ⟨⟨f1, f2⟩, g1, g2⟩ := i_s1 hI1 s0 s1
  rw [c_56 hC s0 s1, c_6_0 hC, c_53 hC s0 s1]
  refine ⟨fun r2 => ?_, fun r2 => cThr hC hI hB hn (cP_of hQ (by unfold rBreaks; rw [if_pos ⟨s0, s1⟩, if_neg r2]))⟩
  have hQ := cP_of hQ (show rBreaks g s = (0, sm (bkT g s) (nt (g 336 0)), gBreaks g s) by unfold rBreaks; rw [if_pos ⟨s0, s1⟩, if_pos r2])
  rintro v16 rfl
  rw [c_51 hC s0 s1, c_31 hC f1 f2]
  have main : ∀ fl : Int32, flg fl (¬ 2 * g 108 (nt (g 122 (nt s))) ≤ 3 * (g 300 0 - g 124 (nt s))) → w_X7_breaks_54 Q s s (g 300 0 - g 124 (nt s)) fl S := fun fl hfl => by
    have L : ∀ (d : Nat) (x : Int32) (T : Sg), 0 ≤ x → x + nI d = g 336 0 → x ≤ g 336 0 → cC T (gBk g s (nt x)) → fr S T → T.2 = S.2 → (∀ i, T.1 12 i = S.1 12 i) → w_X7_breaks_62 Q (d + 1) s s (g 300 0 - g 124 (nt s)) fl (sm (bkT g s) (nt x)) x T := by
      intro d
      have fin : ∀ (x : Int32) (T : Sg), x = g 336 0 → cC T (gBk g s (nt x)) → fr S T → T.2 = S.2 → (∀ i, T.1 12 i = S.1 12 i) → (¬ T.1 52 (nt s) < 0 ∧ (∀ S8, S8 = su T 23 (nt (T.1 52 (nt s))) ((T.1 23 (nt (T.1 52 (nt s)))) + (g 300 0 - g 124 (nt s))) → (∀ S9, S9 = su S8 56 (nt s) 3 → Q 0 (sm (bkT g s) (nt x)) S9))) := fun x T e t1 t2 t3 t4 => by
        subst e
        have y52 : T.1 52 (nt s) = g 123 (nt s) := c_52 t1 s0 s1
        have y23 : T.1 23 (nt (g 123 (nt s))) = g 105 (nt (g 123 (nt s))) := c_23 t1 g1 g2
        rw [y52, y23]
        refine ⟨by lia, ?_⟩
        rintro S8 rfl S9 rfl
        have k1 := cC_su (i := g 123 (nt s)) (v := g 105 (nt (g 123 (nt s))) + (g 300 0 - g 124 (nt s))) (show (23, 105, 302) ∈ colT by decide) (by omega) (by exact n3) t1
        have k2 := cC_su (i := s) (v := 3) (show (56, 125, 321) ∈ colT by decide) (by omega) (by exact n3) k1
        rw [bk_end] at k2
        exact hQ _ k2 (fr_su (fr_su t2 (by unfold mc; omega)) (by unfold mc; omega)) (bd_up (bd_same hB t3 (fun i => by rw [su_ne (Or.inl (by decide)), su_ne (Or.inl (by decide))]; exact t4 i)))
      induction d with
      | zero =>
        intro x T x0 x1 x2 t1 t2 t3 t4
        have e : x = g 336 0 := by rw [← x1]; show x = x + 0; lia
        have y12 : T.1 12 5 = g 336 0 := by have := c_12_5 t1; exact this
        rw [w_X7_breaks_62]
        unfold w_size
        rw [y12]
        exact kz ⟨fun _ => fin x T e t1 t2 t3 t4, fun z => by lia⟩
      | succ d ih =>
        intro x T x0 x1 x2 t1 t2 t3 t4
        have y12 : T.1 12 5 = g 336 0 := by have := c_12_5 t1; exact this
        rw [w_X7_breaks_62]
        unfold w_size w_get
        rw [y12]
        refine kz ⟨fun z => fin x T (by lia) t1 t2 t3 t4, fun z => ⟨⟨by lia, by rw [y12]; lia⟩, kz ?_⟩⟩
        have hx : x < g 336 0 := by lia
        obtain ⟨q0, q1, -⟩ := ia_t hI1 x x0 hx
        have y70 : T.1 70 (nt x) = g 137 (nt x) := c_70 t1 x0 hx
        have y50 : T.1 50 (nt (g 137 (nt x))) = g 137 (nt x) := c_50 t1 q0 q1
        have y74 : T.1 74 (nt x) = g 141 (nt x) := c_74 t1 x0 hx
        have y73 : T.1 73 (nt x) = g 140 (nt x) := (c_73 t1 x0 hx).trans bk_140
        have eS := ntS x0 (show x < 2147483647 by lia)
        have st := sm_succ (f := bkT g s) x0 (show x < 2147483647 by lia)
        rw [y70, y50, y74, y73]
        have skip : bkT g s x = 0 → w_X7_breaks_62 Q (d + 1) s s (g 300 0 - g 124 (nt s)) fl (sm (bkT g s) (nt x)) (x + 1) T := fun z => by
          have e1 : sm (bkT g s) (nt (x + 1)) = sm (bkT g s) (nt x) := by rw [st, z]; lia
          have e2 : gBk g s (nt (x + 1)) = gBk g s (nt x) := by
            rw [eS, ← bk_step x0 rfl]
            refine gu_self ?_
            rw [bk_140, z]
            lia
          have := ih (x + 1) T (by lia) (by rw [nI1] at x1; lia) (by lia) (by rw [e2]; exact t1) t2 t3 t4
          rw [e1] at this
          exact this
        have pay : ∀ amt : Int32, amt = bkT g s x → w_X7_breaks_132 (fun x1 x2 x3 x4 x5 x6 S => w_X7_breaks_62 Q (d + 1) x1 x2 x3 x4 x5 x6 S) Q s s (g 300 0 - g 124 (nt s)) fl x amt x (sm (bkT g s) (nt x)) T := fun amt ea => by
          unfold w_X7_breaks_132 w_X7_breaks_138
          refine payBack_ok t1 (by exact n3) (by exact q0) (by exact q1) x0 (by exact hx) (fun U u1 u2 u3 u4 => kz ?_)
          rintro v4 rfl
          rw [ea, ← st]
          refine ih (x + 1) U (by lia) (by rw [nI1] at x1; lia) (by lia) ?_ (fr_tr t2 u2) (u3.trans t3) (fun i => (u4 i).trans (t4 i))
          rw [eS, ← bk_step x0 rfl]
          rw [bk_140, ea] at u1
          exact u1
        unfold w_X7_breaks_138
        refine ⟨by lia, fun a1 => ⟨fun a2 => ⟨fun a3 => pay _ ?_, fun a3 => pay _ ?_⟩, fun a2 => skip ?_⟩, fun a1 => skip ?_⟩
        · unfold bkT
          have := flg_0 hfl a3
          rw [if_pos ⟨a1, a2⟩, if_pos (Decidable.not_not.mp this)]
        · unfold bkT
          rw [if_pos ⟨a1, a2⟩, if_neg (flg_1 hfl a3)]
        · unfold bkT; rw [if_neg (fun z => a2 z.2)]
        · unfold bkT; rw [if_neg (fun z => a1 z.1)]
    have := L (nt (g 336 0)) 0 S (by decide) (by rw [nI_nt0 n3.1]; lia) n3.1 (by rw [show nt 0 = 0 from rfl, bk_0]; exact hC) fr_rf rfl (fun _ => rfl)
    exact ⟨_, this⟩
  exact ⟨by lia, fun z => main 0 (Or.inr ⟨rfl, fun u => u z⟩), fun z => main 1 (Or.inl ⟨rfl, z⟩)⟩
end BK
