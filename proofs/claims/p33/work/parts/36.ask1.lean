/-! price, seat, ofTicket, ofHall -/
section A1
variable {n : Nat} {g : Gm} {S : Sg} {Q : Nat → Int32 → Sg → Prop}
theorem priceFor_ok {s age : Int32} (hC : cC S g) (hI : Ia g) (h0 : 0 ≤ s) (h1 : s < g 321 0) (q : Q 0 (prc g s age) S) : w_X5_priceFor s age S Q := by
  obtain ⟨⟨f1, f2⟩, -⟩ := i_s1 hI h0 h1
  unfold w_X5_priceFor w_X5_priceFor_28
  rw [c_51 hC h0 h1, c_53 hC h0 h1, c_33 hC f1 f2]
  unfold prc at q
  dsimp only at q
  refine ⟨by lia, ?_⟩
  rintro v rfl
  refine ⟨fun a => ?_, fun a => ?_⟩
  · rw [if_pos a] at q
    exact ⟨fun b => by rw [if_pos b] at q; exact q, fun b => by rw [if_neg b] at q; exact q⟩
  · rintro v2 rfl
    rw [if_neg a, Int32.mul_comm] at q
    exact ⟨fun b => by rw [if_pos b] at q; exact q, fun b => by rw [if_neg b] at q; exact q⟩
theorem v30 {s : Int32} (hI : I_n g) (h0 : 0 ≤ s) (h1 : s < g 321 0) : vp_in s 30 := vp_of h0 (by obtain ⟨-, -, -, -, -, -, -, -, -, -, -, n2, -⟩ := hI; show s < 30; lia) (by decide)
theorem v8 {s : Int32} (hI : I_n g) (h : isX g 307 s) : vp_in s 8 := vp_of h.1 (by obtain ⟨-, -, -, -, -, -, -, n2, -⟩ := hI; have := h.2; show s < 8; lia) (by decide)
theorem v4 {s : Int32} (hI : I_n g) (h : isX g 302 s) : vp_in s 4 := vp_of h.1 (by obtain ⟨-, -, -, -, -, n2, -⟩ := hI; have := h.2; show s < 4; lia) (by decide)
theorem v100 {s : Int32} (hI : I_n g) (h0 : 0 ≤ s) (h1 : s < g 331 0) : vp_in s 100 := vp_of h0 (by obtain ⟨-, -, -, -, -, -, -, -, -, -, -, -, -, n2, -⟩ := hI; show s < 100; lia) (by decide)
theorem v400' {x : Int32} (h0 : 0 ≤ x) (h1 : x < 400) : vp_in x 400 := vp_of h0 h1 (by decide)
theorem v400 {s : Int32} (hI : I_n g) (h0 : 0 ≤ s) (h1 : s < g 336 0) : vp_in s 400 := vp_of h0 (by obtain ⟨-, -, -, -, -, -, -, -, -, -, -, -, -, -, -, n2⟩ := hI; show s < 400; lia) (by decide)
theorem cls_price {s age : Int32} (hC : cC S g) (hI : Iv g) (hB : Bd n S) (hn : n < 20000) (hQ : cPost n (rPrice g s age) S Q) : w_X7_price s age S Q := by
  unfold w_X7_price
  refine showAt_ok hC (fun r1 => kz ?_) (fun r1 => cThr1 (by decide) hC hI hB hn (cP_of hQ (if_neg r1)))
  refine needWithin_ok (fun r2 => kz ?_) (fun r2 => cThr1 (by decide) hC hI hB hn (cP_of hQ (by unfold rPrice; rw [if_pos r1, if_neg r2])))
  exact priceFor_ok hC hI.1 r1.1 r1.2 (kz (cRet hC hB (cP_of hQ (by unfold rPrice; rw [if_pos r1, if_pos r2]))))
/-! places -/
theorem placeAt_ok {s r p : Int32} (hC : cC S g) (hI : Ia g) (h0 : isX g 321 s) (q1 : isP g s r p → Q 0 (pla g s r p) S) (q0 : ¬ isP g s r p → S.2.1 + 1 ≤ nB1 ∧ S.2.2 + 6 ≤ nB2 ∧ Q 3 0 (tS S)) : w_X7_placeAt s r p S Q := by
  obtain ⟨-, g1, g2⟩ := i_s1 hI h0.1 h0.2
  unfold w_X7_placeAt w_X7_placeAt_30
  rw [c_52 hC h0.1 h0.2, c_21 hC g1 g2, c_22 hC g1 g2]
  refine ⟨fun a => q0 (fun w => by have := w.2.1; lia), fun a => ⟨by lia, fun b => q0 (fun w => by have := w.2.2.1; lia), fun b => ⟨fun c => q0 (fun w => by have := w.2.2.2.1; lia), fun c => ⟨by lia, fun d => ⟨by lia, ?_⟩, fun d => q0 (fun w => d w.2.2.2.2)⟩⟩⟩⟩
  have := q1 ⟨h0, by lia, by lia, by lia, d⟩
  unfold pla at this
  rw [Int32.mul_comm] at this
  exact this
theorem pla_rng {s r p : Int32} (hI : Ia g) (h : isP g s r p) : 0 ≤ pla g s r p ∧ pla g s r p < wd g s := by
  obtain ⟨⟨h0, h1⟩, r0, r1, p0, p1⟩ := h
  obtain ⟨-, g1, g2⟩ := i_s1 hI h0 h1
  obtain ⟨a1, a2, a3, a4⟩ := ia_h hI _ g1 g2
  unfold pla wd
  revert r1 p1 a1 a2 a3 a4
  generalize g 103 (nt (g 123 (nt s))) = R
  generalize g 104 (nt (g 123 (nt s))) = W
  intro r1 p1 a1 a2 a3 a4
  have n0 : (0 : Int32).toInt = 0 := rfl
  have n1 : (1 : Int32).toInt = 1 := rfl
  have n6 : (6 : Int32).toInt = 6 := rfl
  have n8 : (8 : Int32).toInt = 8 := rfl
  rw [z_le, n0] at r0 p0
  rw [z_le, n1] at a1 a3
  rw [z_le, n6] at a2
  rw [z_le, n8] at a4
  rw [z_lt] at r1 p1
  have b1 : 0 ≤ W.toInt * r.toInt := Int.mul_nonneg (by omega) r0
  have b2 : W.toInt * r.toInt ≤ 8 * 6 := Int.mul_le_mul a4 (by omega) r0 (by omega)
  have b3 : 0 ≤ R.toInt * W.toInt := Int.mul_nonneg (by omega) (by omega)
  have b4 : R.toInt * W.toInt ≤ 6 * 8 := Int.mul_le_mul a2 (by omega) (by omega) (by omega)
  have b5 : W.toInt * (r.toInt + 1) ≤ W.toInt * R.toInt := Int.mul_le_mul_of_nonneg_left (by omega) (by omega)
  rw [Int.mul_add, Int.mul_one, Int.mul_comm W.toInt R.toInt] at b5
  have e1 := z_mul (x := W) (y := r) (by omega) (by omega)
  have e2 := z_mul (x := R) (y := W) (by omega) (by omega)
  have e3 := z_add (x := W * r) (y := p) (by omega) (by omega)
  rw [z_le, z_lt, e3, e1, e2, n0]
  omega
theorem cls_seat {s r p : Int32} (hC : cC S g) (hI : Iv g) (hB : Bd n S) (hn : n < 20000) (hQ : cPost n (rSeat g s r p) S Q) : w_X7_seat s r p S Q := by
  unfold w_X7_seat
  refine showAt_ok hC (fun r1 => kz ?_) (fun r1 => cThr1 (by decide) hC hI hB hn (cP_of hQ (if_neg (fun q => r1 q.1))))
  rw [c_54 hC r1.1 r1.2]
  refine ⟨by have := r1.1; lia, placeAt_ok hC hI.1 r1 (fun r2 => kz ?_) (fun r2 => cThr1 (by decide) hC hI hB hn (cP_of hQ (if_neg r2)))⟩
  obtain ⟨p0, p1⟩ := pla_rng hI.1 r2
  rw [c_58 hC r1.1 r1.2, c_pl hC r1.1 r1.2 p0 p1]
  exact ⟨vp_of2 p0 p1, cRet hC hB (cP_of hQ (if_pos r2))⟩
theorem v1440 {s p : Int32} (hI : Ia g) (h : isX g 321 s) (p0 : 0 ≤ p) (p1 : p < 48) : vp_in (48 * s + p) 1440 := by
  obtain ⟨-, -, -, -, -, -, -, -, -, -, -, n2, -⟩ := ia_n hI
  have h0 := h.1
  have h1 := h.2
  exact vp_of (by lia) (by show _ < 1440; lia) (by decide)
/-! ofTicket -/
theorem ticketAt_ok {a : Int32} (hC : cC S g) (h0 : isX g 336 a → Q 0 a S) (h1 : ¬ isX g 336 a → S.2.1 + 1 ≤ nB1 ∧ S.2.2 + 6 ≤ nB2 ∧ Q 3 0 (tS S)) : w_X7_ticketAt a S Q := by
  unfold w_X7_ticketAt
  refine needTicket_ok hC (fun r => kz ?_) (fun r => by obtain ⟨b1, b2, b3⟩ := h1 r; exact ⟨b1, b2, kn (by decide) b3⟩)
  unfold w_get
  rw [c_12_5 hC]
  exact ⟨⟨by have := r.1; lia, r.2⟩, kz (h0 r)⟩
theorem max1 {x : Int32} (h : 1 ≤ x) (q : Q 0 x S) : w_J9_max_7cf53 x 1 S Q := by
  unfold w_J9_max_7cf53
  exact ⟨fun a => by lia, fun _ => q⟩
theorem cls_ofTicket {t w : Int32} (hC : cC S g) (hI : Iv g) (hB : Bd n S) (hn : n < 20000) (hQ : cPost n (rOfTicket g t w) S Q) : w_X7_ofTicket t w S Q := by
  unfold w_X7_ofTicket
  refine ticketAt_ok hC (fun r1 => kz ?_) (fun r1 => cThr1 (by decide) hC hI hB hn (cP_of hQ (if_neg (fun q => r1 q.1))))
  obtain ⟨t1, t2, -⟩ := i_t hI t r1.1 r1.2
  obtain ⟨-, g1, g2⟩ := i_s1 hI.1 t1 t2
  obtain ⟨-, -, a3, -⟩ := i_h hI _ g1 g2
  have ok : ∀ v, inr w 0 7 → (inr w 0 5 → v = (rOfTicket g t w).2.1) → inr w 0 5 → Q 0 v S := fun v _ h2 h3 => by
    refine cRet hC hB (cP_of hQ ?_)
    rw [h2 h3]
    unfold rOfTicket
    rw [if_pos ⟨r1, h3⟩]
  have sel : inr w 0 5 → (rOfTicket g t w).2.1 = (if w = 0 then g 137 (nt t) else if w = 1 then g 138 (nt t) / g 104 (nt (g 123 (nt (g 137 (nt t))))) else if w = 2 then g 138 (nt t) - g 138 (nt t) / g 104 (nt (g 123 (nt (g 137 (nt t))))) * g 104 (nt (g 123 (nt (g 137 (nt t))))) else if w = 3 then g 139 (nt t) else if w = 4 then g 140 (nt t) else if g 141 (nt t) = 0 then 0 else 1) := fun h => by unfold rOfTicket; rw [if_pos ⟨r1, h⟩]
  unfold w_X5_rowOf w_X5_seatOf
  rw [c_70 hC r1.1 r1.2, c_71 hC r1.1 r1.2, c_72 hC r1.1 r1.2, c_73 hC r1.1 r1.2, c_74 hC r1.1 r1.2, c_50 hC t1 t2, c_52 hC t1 t2, c_22 hC g1 g2]
  refine ⟨fun b0 => ⟨by lia, ok _ (by rw [b0]; decide) (fun h => by rw [sel h, if_pos b0]) (by rw [b0]; decide)⟩, fun b0 => ⟨fun b1 => ⟨by lia, by lia, max1 a3 (kz ⟨by lia, kz ?_⟩)⟩, fun b1 => ⟨fun b2 => ⟨by lia, by lia, max1 a3 (kz ⟨by lia, kz ?_⟩)⟩, fun b2 => ⟨fun b3 => ?_, fun b3 => ⟨fun b4 => ?_, fun b4 => ⟨fun b5 => ⟨fun b6 => ?_, fun b6 => ?_⟩, fun b5 => ?_⟩⟩⟩⟩⟩⟩
  · exact ok _ (by rw [b1]; decide) (fun h => by rw [sel h, if_neg b0, if_pos b1]) (by rw [b1]; decide)
  · exact ok _ (by rw [b2]; decide) (fun h => by rw [sel h, if_neg b0, if_neg b1, if_pos b2]) (by rw [b2]; decide)
  · exact ok _ (by rw [b3]; decide) (fun h => by rw [sel h, if_neg b0, if_neg b1, if_neg b2, if_pos b3]) (by rw [b3]; decide)
  · exact ok _ (by rw [b4]; decide) (fun h => by rw [sel h, if_neg b0, if_neg b1, if_neg b2, if_neg b3, if_pos b4]) (by rw [b4]; decide)
  · exact ok _ (by rw [b5]; decide) (fun h => by rw [sel h, if_neg b0, if_neg b1, if_neg b2, if_neg b3, if_neg b4, if_pos b6]) (by rw [b5]; decide)
  · exact ok _ (by rw [b5]; decide) (fun h => by rw [sel h, if_neg b0, if_neg b1, if_neg b2, if_neg b3, if_neg b4, if_neg b6]) (by rw [b5]; decide)
  · exact cThr hC hI hB hn (cP_of hQ (if_neg (fun q => by obtain ⟨-, q1, q2⟩ := q; lia)))
end A1
