/-! takings, share, mustStay, audit, all -/
theorem sm_single {v a : Int32} : ∀ n : Nat, n < 2147483648 → 0 ≤ a → sm (fun s => if s = a then v else 0) n = if a < nI n then v else 0
  | 0, _, h0 => by
    rw [if_neg (by show ¬ a < 0; lia)]
    rfl
  | n + 1, hn, h0 => by
    have e1 : (nI n).toInt = n := nI_toInt (by omega)
    have e2 : (nI (n + 1)).toInt = (n + 1 : Nat) := nI_toInt (by omega)
    show sm (fun s => if s = a then v else 0) n + (if nI n = a then v else 0) = _
    rw [sm_single n (by omega) h0]
    by_cases q : nI n = a
    · rw [if_pos q, if_neg (by rw [q]; lia), if_pos (by rw [z_lt, ← q]; omega)]; lia
    · have q2 : a.toInt ≠ n := fun e => q (Int32.toInt_inj.mp (e1.trans e.symm))
      rw [if_neg q]
      by_cases q3 : a < nI n
      · rw [if_pos q3, if_pos (by rw [z_lt] at q3 ⊢; omega)]; lia
      · rw [if_neg q3, if_neg (by rw [z_lt] at q3 ⊢; omega)]; rfl
/-- by shows or by tickets: the same sum -/
theorem sm_swap {W : Int32 → Prop} [DecidablePred W] {sh p : Int32 → Int32} {m : Nat} (hm : m < 2147483648) : ∀ n : Nat, n < 2147483648 → (∀ t : Int32, 0 ≤ t → t < nI n → 0 ≤ sh t ∧ sh t < nI m) → sm (fun s => if W s then sm (fun t => if sh t = s then p t else 0) n else 0) m = sm (fun t => if W (sh t) then p t else 0) n
  | 0, _, _ => by
    have : ∀ m : Nat, sm (fun s => if W s then sm (fun t => if sh t = s then p t else 0) 0 else 0) m = 0 := fun m => by
      induction m with
      | zero => rfl
      | succ m ih =>
        show _ + _ = _
        rw [ih]
        show 0 + (if W (nI m) then 0 else 0) = (0 : Int32)
        split <;> rfl
    exact this m
  | n + 1, hn, hh => by
    have e1 : (nI n).toInt = n := nI_toInt (by omega)
    have e2 : (nI (n + 1)).toInt = (n + 1 : Nat) := nI_toInt (by omega)
    have z0 : (0 : Int32).toInt = 0 := rfl
    obtain ⟨a, b⟩ := hh (nI n) (by rw [z_le]; omega) (by rw [z_lt]; omega)
    show _ = sm (fun t => if W (sh t) then p t else 0) n + (if W (sh (nI n)) then p (nI n) else 0)
    rw [← sm_swap hm n (by omega) (fun t t0 t1 => hh t t0 (by rw [z_lt] at t1 ⊢; omega))]
    have e : sm (fun s => if W s then sm (fun t => if sh t = s then p t else 0) (n + 1) else 0) m = sm (fun s => (fun s => if W s then sm (fun t => if sh t = s then p t else 0) n else 0) s + (fun s => if s = sh (nI n) then (if W (sh (nI n)) then p (nI n) else 0) else 0) s) m := by
      refine sm_congr hm (fun s _ _ => ?_)
      show (if W s then sm (fun t => if sh t = s then p t else 0) n + (if sh (nI n) = s then p (nI n) else 0) else 0) = (if W s then sm (fun t => if sh t = s then p t else 0) n else 0) + (if s = sh (nI n) then (if W (sh (nI n)) then p (nI n) else 0) else 0)
      by_cases q : s = sh (nI n)
      · rw [if_pos q, if_pos q.symm, ← q]
        by_cases q2 : W s
        · rw [if_pos q2, if_pos q2, if_pos q2]
        · rw [if_neg q2, if_neg q2, if_neg q2]; rfl
      · rw [if_neg (show ¬ s = sh (nI n) from q), if_neg (show ¬ sh (nI n) = s from fun z => q z.symm)]
        by_cases q2 : W s
        · rw [if_pos q2, if_pos q2]
        · rw [if_neg q2, if_neg q2]; rfl
    rw [e, sm_add, sm_single m hm a, if_pos b]
theorem sm_rng {f : Int32 → Int32} : ∀ n : Nat, n ≤ 400 → (∀ x : Int32, 0 ≤ x → x < nI n → 0 ≤ f x ∧ f x ≤ 999) → 0 ≤ (sm f n).toInt ∧ (sm f n).toInt ≤ 999 * n
  | 0, _, _ => ⟨by show (0 : Int) ≤ (0 : Int32).toInt; decide, by show (0 : Int32).toInt ≤ 999 * ((0 : Nat) : Int); decide⟩
  | n + 1, hn, h => by
    have e1 : (nI n).toInt = n := nI_toInt (by omega)
    have e2 : (nI (n + 1)).toInt = (n + 1 : Nat) := nI_toInt (by omega)
    have z0 : (0 : Int32).toInt = 0 := rfl
    have z9 : (999 : Int32).toInt = 999 := rfl
    obtain ⟨a, b⟩ := h (nI n) (by rw [z_le]; omega) (by rw [z_lt]; omega)
    obtain ⟨c, d⟩ := sm_rng n (by omega) (fun x x0 x1 => h x x0 (by rw [z_lt] at x1 ⊢; omega))
    rw [z_le] at a b
    show 0 ≤ (sm f n + f (nI n)).toInt ∧ (sm f n + f (nI n)).toInt ≤ 999 * ((n + 1 : Nat) : Int)
    rw [z_add (by omega) (by omega)]
    omega
theorem sm_zero {f : Int32 → Int32} (n : Nat) (hn : n < 2147483648) (h : ∀ x : Int32, 0 ≤ x → x < nI n → f x = 0) : sm f n = 0 := by
  have := sm_tail (f := f) (n := 0) n (by omega) (fun x a b => h x a (by rw [Nat.zero_add] at b; exact b))
  rw [Nat.zero_add] at this
  exact this
theorem dec_le {W : Int32 → Prop} (h : DecidablePred W) : True := trivial
section A3
variable {n : Nat} {g : Gm} {S : Sg} {Q : Nat → Int32 → Sg → Prop}
theorem opg_step {f x : Int32} (h0 : 0 ≤ x) (h1 : x < 2147483647) : opg g f (nt (x + 1)) = if g 122 (nt x) = f ∧ g 125 (nt x) ≠ 4 ∧ (opg g f (nt x) = -1 ∨ g 124 (nt x) / 10080 < opg g f (nt x)) then g 124 (nt x) / 10080 else opg g f (nt x) := by
  rw [ntS h0 h1]
  show (if g 122 (nt (nI (nt x))) = f ∧ g 125 (nt (nI (nt x))) ≠ 4 ∧ (opg g f (nt x) = -1 ∨ g 124 (nt (nI (nt x))) / 10080 < opg g f (nt x)) then g 124 (nt (nI (nt x))) / 10080 else opg g f (nt x)) = _
  rw [nI_nt0 h0]
theorem opening_ok {f : Int32} (hC : cC S g) (hI : Ia g) (hf : isX g 307 f) (q : Q 0 (opn g f) S) : w_X7_openingOf f S Q := by
  have n3 := n321 (ia_n hI)
  have L : ∀ (d : Nat) (x : Int32), 0 ≤ x → x + nI d = g 321 0 → x ≤ g 321 0 → w_X7_openingOf_4 Q (d + 1) f (opg g f (nt x)) x S := by
    intro d
    induction d with
    | zero =>
      intro x a b c
      have e : x = g 321 0 := by rw [← b]; show x = x + 0; lia
      rw [w_X7_openingOf_4]
      unfold w_size
      rw [c_12_3 hC, e]
      exact kz ⟨fun _ => q, fun w9 => by lia⟩
    | succ d ih =>
      intro x a b c
      rw [w_X7_openingOf_4]
      unfold w_size w_get
      rw [c_12_3 hC]
      refine kz ⟨fun w9 => ?_, fun w9 => ⟨⟨by lia, by rw [c_12_3 hC]; lia⟩, kz ?_⟩⟩
      · rw [show x = g 321 0 by lia]; exact q
      have hx : x < g 321 0 := by lia
      obtain ⟨⟨f1, f2⟩, -⟩ := i_s1 hI a hx
      have st := opg_step (g := g) (f := f) a (by lia)
      have nx : ∀ v, v = opg g f (nt (x + 1)) → w_X7_openingOf_4 Q (d + 1) f v (x + 1) S := fun v e => by
        rw [e]; exact ih (x + 1) (by lia) (by rw [nI1] at b; lia) (by lia)
      unfold w_X7_openingOf_66 w_X7_openingOf_72 w_X5_week
      rw [c_51 hC a hx, c_30 hC f1 f2, c_30 hC hf.1 hf.2, c_56 hC a hx, c_53 hC a hx]
      refine ⟨by lia, fun a1 => ⟨fun a2 => nx _ (by rw [st, if_neg (fun z => z.2.1 a2)]), fun a2 => ⟨fun a3 => kz (nx _ (by rw [st, if_pos ⟨a1, a2, Or.inl a3⟩])), fun a3 => kz ⟨fun a4 => nx _ (by rw [st, if_neg (fun z => z.2.2.elim a3 (fun z => by lia))]), fun a4 => ?_⟩⟩⟩, fun a1 => nx _ (by rw [st, if_neg (fun z => a1 z.1)])⟩
      rw [c_53 hC a hx]
      exact kz (nx _ (by rw [st, if_pos ⟨a1, a2, Or.inr (by lia)⟩]))
  exact ⟨nt (g 321 0) + 1, L _ 0 (by decide) (by rw [nI_nt0 n3.1]; lia) n3.1⟩
theorem taken2_ok {f w : Int32} (hC : cC S g) (hI : Ia g) (hf : isX g 307 f) (q : Q 0 (tkn g f w) S) : w_X7_takenIn f w S Q := by
  have n3 := n321 (ia_n hI)
  unfold w_X7_takenIn
  refine opening_ok hC hI hf (kz ⟨fun o => ?_, fun o => ?_⟩)
  · have e : tkn g f w = 0 := by
      unfold tkn
      exact sm_zero _ (nt_lt32 _) (fun x _ _ => by rw [if_neg (fun z => z.1 o)])
    rw [e] at q; exact q
  have L : ∀ (d : Nat) (x : Int32), 0 ≤ x → x + nI d = g 321 0 → x ≤ g 321 0 → w_X7_takenIn_19 Q (d + 1) f w (opn g f) (sm (fun s => if inW g f w s then pf g s else 0) (nt x)) x S := by
    intro d
    induction d with
    | zero =>
      intro x a b c
      have e : x = g 321 0 := by rw [← b]; show x = x + 0; lia
      rw [w_X7_takenIn_19]
      unfold w_size
      rw [c_12_3 hC, e]
      exact kz ⟨fun _ => q, fun w9 => by lia⟩
    | succ d ih =>
      intro x a b c
      rw [w_X7_takenIn_19]
      unfold w_size w_get
      rw [c_12_3 hC]
      refine kz ⟨fun w9 => ?_, fun w9 => ⟨⟨by lia, by rw [c_12_3 hC]; lia⟩, kz ?_⟩⟩
      · rw [show x = g 321 0 by lia]; exact q
      have hx : x < g 321 0 := by lia
      obtain ⟨⟨f1, f2⟩, -⟩ := i_s1 hI a hx
      have st := sm_succ (f := fun s => if inW g f w s then pf g s else 0) a (by lia)
      have nx : ∀ v, v = sm (fun s => if inW g f w s then pf g s else 0) (nt x) + (if inW g f w x then pf g x else 0) → w_X7_takenIn_19 Q (d + 1) f w (opn g f) v (x + 1) S := fun v e => by
        rw [e, ← st]; exact ih (x + 1) (by lia) (by rw [nI1] at b; lia) (by lia)
      unfold w_X7_takenIn_81 w_X5_week
      rw [c_51 hC a hx, c_30 hC f1 f2, c_30 hC hf.1 hf.2, c_53 hC a hx]
      refine ⟨by lia, fun a1 => kz ⟨fun a2 => ?_, fun a2 => nx _ (by rw [if_neg (fun z => a2 z.2.2)]; lia)⟩, fun a1 => nx _ (by rw [if_neg (fun z => a1 z.2.1)]; lia)⟩
      rintro v rfl
      rw [c_57 hC a hx]
      exact nx _ (by rw [if_pos ⟨o, a1, a2⟩])
  exact ⟨nt (g 321 0) + 1, L _ 0 (by decide) (by rw [nI_nt0 n3.1]; lia) n3.1⟩
theorem cls_takings {f w : Int32} (hC : cC S g) (hI : Iv g) (hB : Bd n S) (hn : n < 20000) (hQ : cPost n (rTakings g f w) S Q) : w_X7_takings f w S Q := by
  unfold w_X7_takings
  refine filmAt_ok hC (fun r1 => kz ?_) (fun r1 => cThr1 (by decide) hC hI hB hn (cP_of hQ (if_neg r1)))
  refine needWithin_ok (fun r2 => kz ?_) (fun r2 => cThr1 (by decide) hC hI hB hn (cP_of hQ (by unfold rTakings; rw [if_pos r1, if_neg r2])))
  exact taken2_ok hC hI.1 r1 (kz (cRet hC hB (cP_of hQ (by unfold rTakings; rw [if_pos r1, if_pos r2]))))
theorem tkn_swap (hI : Ia g) {f w : Int32} : tkn g f w = sm (fun t => if inW g f w (g 137 (nt t)) then g 140 (nt t) else 0) (nt (g 336 0)) := by
  have n3 := n336 (ia_n hI)
  have n2 := n321 (ia_n hI)
  unfold tkn pf
  exact sm_swap (W := fun s => inW g f w s) (sh := fun t => g 137 (nt t)) (p := fun t => g 140 (nt t)) (nt_lt32 _) _ (nt_lt32 _) (fun t a b => by
    rw [nI_nt0 n3.1] at b
    rw [nI_nt0 n2.1]
    obtain ⟨h1, h2, -⟩ := ia_t hI t a b
    exact ⟨h1, h2⟩)
theorem cls_takingsAnew {f w : Int32} (hC : cC S g) (hI : Iv g) (hB : Bd n S) (hn : n < 20000) (hQ : cPost n (rTakings g f w) S Q) : w_X7_takingsAnew f w S Q := by
  have n3 := n336 (i_n hI)
  have hI1 := hI.1
  unfold w_X7_takingsAnew
  refine filmAt_ok hC (fun r1 => kz ?_) (fun r1 => cThr1 (by decide) hC hI hB hn (cP_of hQ (if_neg r1)))
  refine needWithin_ok (fun r2 => kz ?_) (fun r2 => cThr1 (by decide) hC hI hB hn (cP_of hQ (by unfold rTakings; rw [if_pos r1, if_neg r2])))
  have q : Q 0 (tkn g f w) S := cRet hC hB (cP_of hQ (by unfold rTakings; rw [if_pos r1, if_pos r2]))
  rw [tkn_swap hI1] at q
  refine opening_ok hC hI.1 r1 (kz ⟨fun o => ?_, fun o => ?_⟩)
  · rw [sm_zero _ (nt_lt32 _) (fun x _ _ => by rw [if_neg (fun z => z.1 o)])] at q; exact q
  have L : ∀ (d : Nat) (x : Int32), 0 ≤ x → x + nI d = g 336 0 → x ≤ g 336 0 → w_X7_takingsAnew_34 Q (d + 1) f w (opn g f) (sm (fun t => if inW g f w (g 137 (nt t)) then g 140 (nt t) else 0) (nt x)) x S := by
    intro d
    induction d with
    | zero =>
      intro x a b c
      have e : x = g 336 0 := by rw [← b]; show x = x + 0; lia
      rw [w_X7_takingsAnew_34]
      unfold w_size
      rw [c_12_5 hC, e]
      exact kz ⟨fun _ => q, fun w9 => by lia⟩
    | succ d ih =>
      intro x a b c
      rw [w_X7_takingsAnew_34]
      unfold w_size w_get
      rw [c_12_5 hC]
      refine kz ⟨fun w9 => ?_, fun w9 => ⟨⟨by lia, by rw [c_12_5 hC]; lia⟩, kz ?_⟩⟩
      · rw [show x = g 336 0 by lia]; exact q
      have hx : x < g 336 0 := by lia
      obtain ⟨t1, t2, -⟩ := ia_t hI1 x a hx
      obtain ⟨⟨f1, f2⟩, -⟩ := i_s1 hI1 t1 t2
      have st := sm_succ (f := fun t => if inW g f w (g 137 (nt t)) then g 140 (nt t) else 0) a (by lia)
      have nx : ∀ v, v = sm (fun t => if inW g f w (g 137 (nt t)) then g 140 (nt t) else 0) (nt x) + (if inW g f w (g 137 (nt x)) then g 140 (nt x) else 0) → w_X7_takingsAnew_34 Q (d + 1) f w (opn g f) v (x + 1) S := fun v e => by
        rw [e, ← st]; exact ih (x + 1) (by lia) (by rw [nI1] at b; lia) (by lia)
      unfold w_X7_takingsAnew_100 w_X5_week
      rw [c_70 hC a hx, c_51 hC t1 t2, c_30 hC f1 f2, c_53 hC t1 t2]
      refine ⟨by lia, by lia, fun a1 => ⟨by lia, kz ⟨fun a2 => ?_, fun a2 => nx _ (by rw [if_neg (fun z => a2 z.2.2)]; lia)⟩⟩, fun a1 => nx _ (by rw [if_neg (fun z => a1 z.2.1)]; lia)⟩
      rintro v rfl
      rw [c_73 hC a hx]
      exact nx _ (by rw [if_pos ⟨o, a1, a2⟩])
  exact ⟨nt (g 336 0) + 1, L _ 0 (by decide) (by rw [nI_nt0 n3.1]; lia) n3.1⟩
theorem tkn_rng (hI : Ia g) {f w : Int32} : 0 ≤ tkn g f w ∧ tkn g f w ≤ 399600 := by
  have n3 := n336 (ia_n hI)
  have hn := nt_le (n := 400) (by decide) (show g 336 0 ≤ nI 400 from n3.2)
  rw [tkn_swap hI]
  have := sm_rng (f := fun t => if inW g f w (g 137 (nt t)) then g 140 (nt t) else 0) (nt (g 336 0)) hn (fun x a b => by
    rw [nI_nt0 n3.1] at b
    obtain ⟨-, -, -, -, -, h1, h2, -⟩ := ia_t hI x a b
    split
    · exact ⟨h1, h2⟩
    · decide)
  have z0 : (0 : Int32).toInt = 0 := rfl
  have z9 : (399600 : Int32).toInt = 399600 := rfl
  constructor
  · rw [z_le]; omega
  · rw [z_le]; omega
end A3
