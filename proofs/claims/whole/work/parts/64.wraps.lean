/-! the law's thirty wrappers (mk63.py writes this part) -/
section WR
variable {X : Cx} {l : Launch} {Qa : Nat → Int32 → Sg → Prop}
def w_L_hall (a1 a2 : Int32) (S : Sg) (Q : Nat → Int32 → Sg → Prop) : Prop := w_X7_hall a1 a2 S (wH [1, 2] Q)
theorem ct_L_hall (hT : xT X = tb1) (hl : l.stackTraces = false) {a1 a2 : Int32} {S : Sg} (h : w_L_hall a1 a2 S Qa) : CTH X k0 l yL_hall cL_hall 5 (some .int) [(0, 10, 13, 13), (0, 10, 17, 15)] 9 203 [Value.ref (enc 0 0), Value.int a1, Value.int a2, Value.ref (enc 14 0)] rvI S Qa :=
  CTH_ofV (own := RL) (by decide +kernel) (le8 rfl) rfl hl fun p e R s m args below meth c ad0 C hr hnm htab => by
    refine V_aload_n (pc := 0) C dL_hall_0 rfl 3 rfl ?_
    refine V_iconst (pc := 1) C (v := 0) dL_hall_1 rfl ?_
    refine V_aload_n (pc := 2) C dL_hall_2 rfl 0 rfl ?_
    refine V_iload_n (pc := 3) C dL_hall_3 rfl 1 rfl ?_
    refine V_iload_n (pc := 4) C dL_hall_4 rfl 2 rfl ?_
    refine V_callV (pc := 5) C (ct_X7_hall hT hl h) g148 g149 g150 g151 g60 ⟨by decide, by decide, pl_X7_hall⟩ (enc_ne63 (by decide)) (ct_obj hT rfl (by decide)) rfl ⟨by decide, by decide⟩ (rest := [Value.int 0, Value.ref (enc 14 0)]) rfl (le8 rfl) dL_hall_5 (fun v S1 h => ?_) (fun k9 S9 hk h => ?_)
    · replace h := h.1 rfl
      refine V_st (st' := [Value.int v, Value.int 0, Value.ref (enc 14 0)]) rfl ?_
      refine V_i2l (pc := 8) C dL_hall_8 ?_
      refine V_lastO (pc := 9) C hT dL_hall_9 (fun T e9 => ?_)
      subst e9
      refine V_goto (pc := 10) (tgt := 21) C dL_hall_10 (by decide) ?_
      refine V_iconst (pc := 21) C (v := 0) dL_hall_21 rfl ?_
      exact V_iret (pc := 22) C hr rfl h dL_hall_22
    · rcases hk with rfl | rfl | rfl
      · replace h := h.2 (by decide)
        refine VX_catch (k := 1) C htab [] ⟨0, 10, 13, 13⟩ [⟨0, 10, 17, 15⟩] rfl (fun z hz => absurd hz List.not_mem_nil) (by decide) (by decide) g146 ca_1 dL_hall_13 (by decide) ?_
        refine V_iconst (pc := 15) C (v := thx [1, 2] 1) dL_hall_15 (by decide) ?_
        exact V_iret (pc := 16) C hr rfl h.2 dL_hall_16
      · replace h := h.2 (by decide)
        refine VX_catch (k := 2) C htab [⟨0, 10, 13, 13⟩] ⟨0, 10, 17, 15⟩ [] rfl (List.forall_mem_cons.mpr ⟨⟨by decide, _, g146, nc_21⟩, (fun z hz => absurd hz List.not_mem_nil)⟩) (by decide) (by decide) g147 ca_2 dL_hall_17 (by decide) ?_
        refine V_iconst (pc := 19) C (v := thx [1, 2] 2) dL_hall_19 (by decide) ?_
        exact V_iret (pc := 20) C hr rfl h.2 dL_hall_20
      · replace h := h.2 (by decide)
        exact absurd h.1 (by decide)
def w_L_lamp (a1 a2 a3 : Int32) (S : Sg) (Q : Nat → Int32 → Sg → Prop) : Prop := w_X7_lamp a1 a2 a3 S (wH [3, 1] Q)
theorem ct_L_lamp (hT : xT X = tb1) (hl : l.stackTraces = false) {a1 a2 a3 : Int32} {S : Sg} (h : w_L_lamp a1 a2 a3 S Qa) : CTH X k0 l yL_lamp cL_lamp 6 (some .int) [(0, 12, 15, 21), (0, 12, 19, 13)] 8 129 [Value.ref (enc 0 0), Value.int a1, Value.int a2, Value.int a3, Value.ref (enc 14 0)] rvI S Qa :=
  CTH_ofV (own := RL) (by decide +kernel) (le8 rfl) rfl hl fun p e R s m args below meth c ad0 C hr hnm htab => by
    refine V_aload (pc := 0) C dL_lamp_0 4 rfl ?_
    refine V_iconst (pc := 2) C (v := 0) dL_lamp_2 rfl ?_
    refine V_aload_n (pc := 3) C dL_lamp_3 rfl 0 rfl ?_
    refine V_iload_n (pc := 4) C dL_lamp_4 rfl 1 rfl ?_
    refine V_iload_n (pc := 5) C dL_lamp_5 rfl 2 rfl ?_
    refine V_iload_n (pc := 6) C dL_lamp_6 rfl 3 rfl ?_
    refine V_callV (pc := 7) C (ct_X7_lamp hT hl h) g336 g337 g338 g339 g60 ⟨by decide, by decide, pl_X7_lamp⟩ (enc_ne63 (by decide)) (ct_obj hT rfl (by decide)) rfl ⟨by decide, by decide⟩ (rest := [Value.int 0, Value.ref (enc 14 0)]) rfl (le8 rfl) dL_lamp_7 (fun v S1 h => ?_) (fun k9 S9 hk h => ?_)
    · replace h := h.1 rfl
      refine V_st (st' := [Value.int v, Value.int 0, Value.ref (enc 14 0)]) rfl ?_
      refine V_i2l (pc := 10) C dL_lamp_10 ?_
      refine V_lastO (pc := 11) C hT dL_lamp_11 (fun T e9 => ?_)
      subst e9
      refine V_goto (pc := 12) (tgt := 23) C dL_lamp_12 (by decide) ?_
      refine V_iconst (pc := 23) C (v := 0) dL_lamp_23 rfl ?_
      exact V_iret (pc := 24) C hr rfl h dL_lamp_24
    · rcases hk with rfl | rfl | rfl
      · replace h := h.2 (by decide)
        refine VX_catch (k := 1) C htab [⟨0, 12, 15, 21⟩] ⟨0, 12, 19, 13⟩ [] rfl (List.forall_mem_cons.mpr ⟨⟨by decide, _, g335, nc_13⟩, (fun z hz => absurd hz List.not_mem_nil)⟩) (by decide) (by decide) g146 ca_1 dL_lamp_19 (by decide) ?_
        refine V_iconst (pc := 21) C (v := thx [3, 1] 1) dL_lamp_21 (by decide) ?_
        exact V_iret (pc := 22) C hr rfl h.2 dL_lamp_22
      · replace h := h.2 (by decide)
        exact absurd h.1 (by decide)
      · replace h := h.2 (by decide)
        refine VX_catch (k := 3) C htab [] ⟨0, 12, 15, 21⟩ [⟨0, 12, 19, 13⟩] rfl (fun z hz => absurd hz List.not_mem_nil) (by decide) (by decide) g335 ca_3 dL_lamp_15 (by decide) ?_
        refine V_iconst (pc := 17) C (v := thx [3, 1] 3) dL_lamp_17 (by decide) ?_
        exact V_iret (pc := 18) C hr rfl h.2 dL_lamp_18
def w_L_film (a1 a2 a3 : Int32) (S : Sg) (Q : Nat → Int32 → Sg → Prop) : Prop := w_X7_film a1 a2 a3 S (wH [1, 2] Q)
theorem ct_L_film (hT : xT X = tb1) (hl : l.stackTraces = false) {a1 a2 a3 : Int32} {S : Sg} (h : w_L_film a1 a2 a3 S Qa) : CTH X k0 l yL_film cL_film 6 (some .int) [(0, 12, 15, 13), (0, 12, 19, 15)] 9 204 [Value.ref (enc 0 0), Value.int a1, Value.int a2, Value.int a3, Value.ref (enc 14 0)] rvI S Qa :=
  CTH_ofV (own := RL) (by decide +kernel) (le8 rfl) rfl hl fun p e R s m args below meth c ad0 C hr hnm htab => by
    refine V_aload (pc := 0) C dL_film_0 4 rfl ?_
    refine V_iconst (pc := 2) C (v := 0) dL_film_2 rfl ?_
    refine V_aload_n (pc := 3) C dL_film_3 rfl 0 rfl ?_
    refine V_iload_n (pc := 4) C dL_film_4 rfl 1 rfl ?_
    refine V_iload_n (pc := 5) C dL_film_5 rfl 2 rfl ?_
    refine V_iload_n (pc := 6) C dL_film_6 rfl 3 rfl ?_
    refine V_callV (pc := 7) C (ct_X7_film hT hl h) g378 g379 g380 g381 g60 ⟨by decide, by decide, pl_X7_film⟩ (enc_ne63 (by decide)) (ct_obj hT rfl (by decide)) rfl ⟨by decide, by decide⟩ (rest := [Value.int 0, Value.ref (enc 14 0)]) rfl (le8 rfl) dL_film_7 (fun v S1 h => ?_) (fun k9 S9 hk h => ?_)
    · replace h := h.1 rfl
      refine V_st (st' := [Value.int v, Value.int 0, Value.ref (enc 14 0)]) rfl ?_
      refine V_i2l (pc := 10) C dL_film_10 ?_
      refine V_lastO (pc := 11) C hT dL_film_11 (fun T e9 => ?_)
      subst e9
      refine V_goto (pc := 12) (tgt := 23) C dL_film_12 (by decide) ?_
      refine V_iconst (pc := 23) C (v := 0) dL_film_23 rfl ?_
      exact V_iret (pc := 24) C hr rfl h dL_film_24
    · rcases hk with rfl | rfl | rfl
      · replace h := h.2 (by decide)
        refine VX_catch (k := 1) C htab [] ⟨0, 12, 15, 13⟩ [⟨0, 12, 19, 15⟩] rfl (fun z hz => absurd hz List.not_mem_nil) (by decide) (by decide) g146 ca_1 dL_film_15 (by decide) ?_
        refine V_iconst (pc := 17) C (v := thx [1, 2] 1) dL_film_17 (by decide) ?_
        exact V_iret (pc := 18) C hr rfl h.2 dL_film_18
      · replace h := h.2 (by decide)
        refine VX_catch (k := 2) C htab [⟨0, 12, 15, 13⟩] ⟨0, 12, 19, 15⟩ [] rfl (List.forall_mem_cons.mpr ⟨⟨by decide, _, g146, nc_21⟩, (fun z hz => absurd hz List.not_mem_nil)⟩) (by decide) (by decide) g147 ca_2 dL_film_19 (by decide) ?_
        refine V_iconst (pc := 21) C (v := thx [1, 2] 2) dL_film_21 (by decide) ?_
        exact V_iret (pc := 22) C hr rfl h.2 dL_film_22
      · replace h := h.2 (by decide)
        exact absurd h.1 (by decide)
def w_L_terms (a1 a2 a3 a4 a5 a6 : Int32) (S : Sg) (Q : Nat → Int32 → Sg → Prop) : Prop := w_X7_terms a1 a2 a3 a4 a5 a6 S (wHv [3, 1] Q)
theorem ct_L_terms (hT : xT X = tb1) (hl : l.stackTraces = false) {a1 a2 a3 a4 a5 a6 : Int32} {S : Sg} (h : w_L_terms a1 a2 a3 a4 a5 a6 S Qa) : CTH X k0 l yL_terms cL_terms 8 (some .int) [(0, 13, 16, 21), (0, 13, 20, 13)] 8 131 [Value.ref (enc 0 0), Value.int a1, Value.int a2, Value.int a3, Value.int a4, Value.int a5, Value.int a6] rvI S Qa :=
  CTH_ofV (own := RL) (by decide +kernel) (le8 rfl) rfl hl fun p e R s m args below meth c ad0 C hr hnm htab => by
    refine V_aload_n (pc := 0) C dL_terms_0 rfl 0 rfl ?_
    refine V_iload_n (pc := 1) C dL_terms_1 rfl 1 rfl ?_
    refine V_iload_n (pc := 2) C dL_terms_2 rfl 2 rfl ?_
    refine V_iload_n (pc := 3) C dL_terms_3 rfl 3 rfl ?_
    refine V_iload (pc := 4) C dL_terms_4 4 rfl ?_
    refine V_iload (pc := 6) C dL_terms_6 5 rfl ?_
    refine V_iload (pc := 8) C dL_terms_8 6 rfl ?_
    refine V_callV (pc := 10) C (ct_X7_terms hT hl h) g430 g431 g432 g433 g60 ⟨by decide, by decide, pl_X7_terms⟩ (enc_ne63 (by decide)) (ct_obj hT rfl (by decide)) rfl ⟨by decide, by decide⟩ (rest := []) rfl (le8 rfl) dL_terms_10 (fun v S1 h => ?_) (fun k9 S9 hk h => ?_)
    · replace h := h.1 rfl
      refine V_st (st' := []) rfl ?_
      refine V_goto (pc := 13) (tgt := 24) C dL_terms_13 (by decide) ?_
      refine V_iconst (pc := 24) C (v := 0) dL_terms_24 rfl ?_
      exact V_iret (pc := 25) C hr rfl h dL_terms_25
    · rcases hk with rfl | rfl | rfl
      · replace h := h.2 (by decide)
        refine VX_catch (k := 1) C htab [⟨0, 13, 16, 21⟩] ⟨0, 13, 20, 13⟩ [] rfl (List.forall_mem_cons.mpr ⟨⟨by decide, _, g335, nc_13⟩, (fun z hz => absurd hz List.not_mem_nil)⟩) (by decide) (by decide) g146 ca_1 dL_terms_20 (by decide) ?_
        refine V_iconst (pc := 22) C (v := thx [3, 1] 1) dL_terms_22 (by decide) ?_
        exact V_iret (pc := 23) C hr rfl h.2 dL_terms_23
      · replace h := h.2 (by decide)
        exact absurd h.1 (by decide)
      · replace h := h.2 (by decide)
        refine VX_catch (k := 3) C htab [] ⟨0, 13, 16, 21⟩ [⟨0, 13, 20, 13⟩] rfl (fun z hz => absurd hz List.not_mem_nil) (by decide) (by decide) g335 ca_3 dL_terms_16 (by decide) ?_
        refine V_iconst (pc := 18) C (v := thx [3, 1] 3) dL_terms_18 (by decide) ?_
        exact V_iret (pc := 19) C hr rfl h.2 dL_terms_19
def w_L_key (a1 a2 a3 a4 : Int32) (S : Sg) (Q : Nat → Int32 → Sg → Prop) : Prop := w_X7_key a1 a2 a3 a4 S (wH [3, 1, 2] Q)
theorem ct_L_key (hT : xT X = tb1) (hl : l.stackTraces = false) {a1 a2 a3 a4 : Int32} {S : Sg} (h : w_L_key a1 a2 a3 a4 S Qa) : CTH X k0 l yL_key cL_key 7 (some .int) [(0, 14, 17, 21), (0, 14, 21, 13), (0, 14, 25, 15)] 9 207 [Value.ref (enc 0 0), Value.int a1, Value.int a2, Value.int a3, Value.int a4, Value.ref (enc 14 0)] rvI S Qa :=
  CTH_ofV (own := RL) (by decide +kernel) (le8 rfl) rfl hl fun p e R s m args below meth c ad0 C hr hnm htab => by
    refine V_aload (pc := 0) C dL_key_0 5 rfl ?_
    refine V_iconst (pc := 2) C (v := 0) dL_key_2 rfl ?_
    refine V_aload_n (pc := 3) C dL_key_3 rfl 0 rfl ?_
    refine V_iload_n (pc := 4) C dL_key_4 rfl 1 rfl ?_
    refine V_iload_n (pc := 5) C dL_key_5 rfl 2 rfl ?_
    refine V_iload_n (pc := 6) C dL_key_6 rfl 3 rfl ?_
    refine V_iload (pc := 7) C dL_key_7 4 rfl ?_
    refine V_callV (pc := 9) C (ct_X7_key hT hl h) g442 g443 g444 g445 g60 ⟨by decide, by decide, pl_X7_key⟩ (enc_ne63 (by decide)) (ct_obj hT rfl (by decide)) rfl ⟨by decide, by decide⟩ (rest := [Value.int 0, Value.ref (enc 14 0)]) rfl (le8 rfl) dL_key_9 (fun v S1 h => ?_) (fun k9 S9 hk h => ?_)
    · replace h := h.1 rfl
      refine V_st (st' := [Value.int v, Value.int 0, Value.ref (enc 14 0)]) rfl ?_
      refine V_i2l (pc := 12) C dL_key_12 ?_
      refine V_lastO (pc := 13) C hT dL_key_13 (fun T e9 => ?_)
      subst e9
      refine V_goto (pc := 14) (tgt := 29) C dL_key_14 (by decide) ?_
      refine V_iconst (pc := 29) C (v := 0) dL_key_29 rfl ?_
      exact V_iret (pc := 30) C hr rfl h dL_key_30
    · rcases hk with rfl | rfl | rfl
      · replace h := h.2 (by decide)
        refine VX_catch (k := 1) C htab [⟨0, 14, 17, 21⟩] ⟨0, 14, 21, 13⟩ [⟨0, 14, 25, 15⟩] rfl (List.forall_mem_cons.mpr ⟨⟨by decide, _, g335, nc_13⟩, (fun z hz => absurd hz List.not_mem_nil)⟩) (by decide) (by decide) g146 ca_1 dL_key_21 (by decide) ?_
        refine V_iconst (pc := 23) C (v := thx [3, 1, 2] 1) dL_key_23 (by decide) ?_
        exact V_iret (pc := 24) C hr rfl h.2 dL_key_24
      · replace h := h.2 (by decide)
        refine VX_catch (k := 2) C htab [⟨0, 14, 17, 21⟩, ⟨0, 14, 21, 13⟩] ⟨0, 14, 25, 15⟩ [] rfl (List.forall_mem_cons.mpr ⟨⟨by decide, _, g335, nc_23⟩, (List.forall_mem_cons.mpr ⟨⟨by decide, _, g146, nc_21⟩, (fun z hz => absurd hz List.not_mem_nil)⟩)⟩) (by decide) (by decide) g147 ca_2 dL_key_25 (by decide) ?_
        refine V_iconst (pc := 27) C (v := thx [3, 1, 2] 2) dL_key_27 (by decide) ?_
        exact V_iret (pc := 28) C hr rfl h.2 dL_key_28
      · replace h := h.2 (by decide)
        refine VX_catch (k := 3) C htab [] ⟨0, 14, 17, 21⟩ [⟨0, 14, 21, 13⟩, ⟨0, 14, 25, 15⟩] rfl (fun z hz => absurd hz List.not_mem_nil) (by decide) (by decide) g335 ca_3 dL_key_17 (by decide) ?_
        refine V_iconst (pc := 19) C (v := thx [3, 1, 2] 3) dL_key_19 (by decide) ?_
        exact V_iret (pc := 20) C hr rfl h.2 dL_key_20
def w_L_spread (a1 : Int32) (S : Sg) (Q : Nat → Int32 → Sg → Prop) : Prop := w_X7_spread a1 S (wH [1] Q)
theorem ct_L_spread (hT : xT X = tb1) (hl : l.stackTraces = false) {a1 : Int32} {S : Sg} (h : w_L_spread a1 S Qa) : CTH X k0 l yL_spread cL_spread 4 (some .int) [(0, 9, 12, 13)] 8 126 [Value.ref (enc 0 0), Value.int a1, Value.ref (enc 14 0)] rvI S Qa :=
  CTH_ofV (own := RL) (by decide +kernel) (le8 rfl) rfl hl fun p e R s m args below meth c ad0 C hr hnm htab => by
    refine V_aload_n (pc := 0) C dL_spread_0 rfl 2 rfl ?_
    refine V_iconst (pc := 1) C (v := 0) dL_spread_1 rfl ?_
    refine V_aload_n (pc := 2) C dL_spread_2 rfl 0 rfl ?_
    refine V_iload_n (pc := 3) C dL_spread_3 rfl 1 rfl ?_
    refine V_callV (pc := 4) C (ct_X7_spread hT hl h) g474 g475 g476 g477 g60 ⟨by decide, by decide, pl_X7_spread⟩ (enc_ne63 (by decide)) (ct_obj hT rfl (by decide)) rfl ⟨by decide, by decide⟩ (rest := [Value.int 0, Value.ref (enc 14 0)]) rfl (le8 rfl) dL_spread_4 (fun v S1 h => ?_) (fun k9 S9 hk h => ?_)
    · replace h := h.1 rfl
      refine V_st (st' := [Value.int v, Value.int 0, Value.ref (enc 14 0)]) rfl ?_
      refine V_i2l (pc := 7) C dL_spread_7 ?_
      refine V_lastO (pc := 8) C hT dL_spread_8 (fun T e9 => ?_)
      subst e9
      refine V_goto (pc := 9) (tgt := 15) C dL_spread_9 (by decide) ?_
      refine V_iconst (pc := 15) C (v := 0) dL_spread_15 rfl ?_
      exact V_iret (pc := 16) C hr rfl h dL_spread_16
    · rcases hk with rfl | rfl | rfl
      · replace h := h.2 (by decide)
        refine VX_catch_n (k := 1) C htab [] ⟨0, 9, 12, 13⟩ [] rfl (fun z hz => absurd hz List.not_mem_nil) (by decide) (by decide) g146 ca_1 dL_spread_12 rfl (by decide) ?_
        refine V_iconst (pc := 13) C (v := thx [1] 1) dL_spread_13 (by decide) ?_
        exact V_iret (pc := 14) C hr rfl h.2 dL_spread_14
      · replace h := h.2 (by decide)
        exact absurd h.1 (by decide)
      · replace h := h.2 (by decide)
        exact absurd h.1 (by decide)
def w_L_show (a1 a2 a3 : Int32) (S : Sg) (Q : Nat → Int32 → Sg → Prop) : Prop := w_X7_show a1 a2 a3 S (wH [3, 1, 2] Q)
theorem ct_L_show (hT : xT X = tb1) (hl : l.stackTraces = false) {a1 a2 a3 : Int32} {S : Sg} (h : w_L_show a1 a2 a3 S Qa) : CTH X k0 l yL_show cL_show 6 (some .int) [(0, 12, 15, 21), (0, 12, 19, 13), (0, 12, 23, 15)] 9 206 [Value.ref (enc 0 0), Value.int a1, Value.int a2, Value.int a3, Value.ref (enc 14 0)] rvI S Qa :=
  CTH_ofV (own := RL) (by decide +kernel) (le8 rfl) rfl hl fun p e R s m args below meth c ad0 C hr hnm htab => by
    refine V_aload (pc := 0) C dL_show_0 4 rfl ?_
    refine V_iconst (pc := 2) C (v := 0) dL_show_2 rfl ?_
    refine V_aload_n (pc := 3) C dL_show_3 rfl 0 rfl ?_
    refine V_iload_n (pc := 4) C dL_show_4 rfl 1 rfl ?_
    refine V_iload_n (pc := 5) C dL_show_5 rfl 2 rfl ?_
    refine V_iload_n (pc := 6) C dL_show_6 rfl 3 rfl ?_
    refine V_callV (pc := 7) C (ct_X7_show hT hl h) g481 g482 g483 g484 g60 ⟨by decide, by decide, pl_X7_show⟩ (enc_ne63 (by decide)) (ct_obj hT rfl (by decide)) rfl ⟨by decide, by decide⟩ (rest := [Value.int 0, Value.ref (enc 14 0)]) rfl (le8 rfl) dL_show_7 (fun v S1 h => ?_) (fun k9 S9 hk h => ?_)
    · replace h := h.1 rfl
      refine V_st (st' := [Value.int v, Value.int 0, Value.ref (enc 14 0)]) rfl ?_
      refine V_i2l (pc := 10) C dL_show_10 ?_
      refine V_lastO (pc := 11) C hT dL_show_11 (fun T e9 => ?_)
      subst e9
      refine V_goto (pc := 12) (tgt := 27) C dL_show_12 (by decide) ?_
      refine V_iconst (pc := 27) C (v := 0) dL_show_27 rfl ?_
      exact V_iret (pc := 28) C hr rfl h dL_show_28
    · rcases hk with rfl | rfl | rfl
      · replace h := h.2 (by decide)
        refine VX_catch (k := 1) C htab [⟨0, 12, 15, 21⟩] ⟨0, 12, 19, 13⟩ [⟨0, 12, 23, 15⟩] rfl (List.forall_mem_cons.mpr ⟨⟨by decide, _, g335, nc_13⟩, (fun z hz => absurd hz List.not_mem_nil)⟩) (by decide) (by decide) g146 ca_1 dL_show_19 (by decide) ?_
        refine V_iconst (pc := 21) C (v := thx [3, 1, 2] 1) dL_show_21 (by decide) ?_
        exact V_iret (pc := 22) C hr rfl h.2 dL_show_22
      · replace h := h.2 (by decide)
        refine VX_catch (k := 2) C htab [⟨0, 12, 15, 21⟩, ⟨0, 12, 19, 13⟩] ⟨0, 12, 23, 15⟩ [] rfl (List.forall_mem_cons.mpr ⟨⟨by decide, _, g335, nc_23⟩, (List.forall_mem_cons.mpr ⟨⟨by decide, _, g146, nc_21⟩, (fun z hz => absurd hz List.not_mem_nil)⟩)⟩) (by decide) (by decide) g147 ca_2 dL_show_23 (by decide) ?_
        refine V_iconst (pc := 25) C (v := thx [3, 1, 2] 2) dL_show_25 (by decide) ?_
        exact V_iret (pc := 26) C hr rfl h.2 dL_show_26
      · replace h := h.2 (by decide)
        refine VX_catch (k := 3) C htab [] ⟨0, 12, 15, 21⟩ [⟨0, 12, 19, 13⟩, ⟨0, 12, 23, 15⟩] rfl (fun z hz => absurd hz List.not_mem_nil) (by decide) (by decide) g335 ca_3 dL_show_15 (by decide) ?_
        refine V_iconst (pc := 17) C (v := thx [3, 1, 2] 3) dL_show_17 (by decide) ?_
        exact V_iret (pc := 18) C hr rfl h.2 dL_show_18
def w_L_cancel (a1 : Int32) (S : Sg) (Q : Nat → Int32 → Sg → Prop) : Prop := w_X7_cancel a1 S (wH [3, 2] Q)
theorem ct_L_cancel (hT : xT X = tb1) (hl : l.stackTraces = false) {a1 : Int32} {S : Sg} (h : w_L_cancel a1 S Qa) : CTH X k0 l yL_cancel cL_cancel 4 (some .int) [(0, 9, 12, 21), (0, 9, 15, 15)] 8 128 [Value.ref (enc 0 0), Value.int a1, Value.ref (enc 14 0)] rvI S Qa :=
  CTH_ofV (own := RL) (by decide +kernel) (le8 rfl) rfl hl fun p e R s m args below meth c ad0 C hr hnm htab => by
    refine V_aload_n (pc := 0) C dL_cancel_0 rfl 2 rfl ?_
    refine V_iconst (pc := 1) C (v := 0) dL_cancel_1 rfl ?_
    refine V_aload_n (pc := 2) C dL_cancel_2 rfl 0 rfl ?_
    refine V_iload_n (pc := 3) C dL_cancel_3 rfl 1 rfl ?_
    refine V_callV (pc := 4) C (ct_X7_cancel hT hl h) g582 g583 g584 g585 g60 ⟨by decide, by decide, pl_X7_cancel⟩ (enc_ne63 (by decide)) (ct_obj hT rfl (by decide)) rfl ⟨by decide, by decide⟩ (rest := [Value.int 0, Value.ref (enc 14 0)]) rfl (le8 rfl) dL_cancel_4 (fun v S1 h => ?_) (fun k9 S9 hk h => ?_)
    · replace h := h.1 rfl
      refine V_st (st' := [Value.int v, Value.int 0, Value.ref (enc 14 0)]) rfl ?_
      refine V_i2l (pc := 7) C dL_cancel_7 ?_
      refine V_lastO (pc := 8) C hT dL_cancel_8 (fun T e9 => ?_)
      subst e9
      refine V_goto (pc := 9) (tgt := 18) C dL_cancel_9 (by decide) ?_
      refine V_iconst (pc := 18) C (v := 0) dL_cancel_18 rfl ?_
      exact V_iret (pc := 19) C hr rfl h dL_cancel_19
    · rcases hk with rfl | rfl | rfl
      · replace h := h.2 (by decide)
        exact absurd h.1 (by decide)
      · replace h := h.2 (by decide)
        refine VX_catch_n (k := 2) C htab [⟨0, 9, 12, 21⟩] ⟨0, 9, 15, 15⟩ [] rfl (List.forall_mem_cons.mpr ⟨⟨by decide, _, g335, nc_23⟩, (fun z hz => absurd hz List.not_mem_nil)⟩) (by decide) (by decide) g147 ca_2 dL_cancel_15 rfl (by decide) ?_
        refine V_iconst (pc := 16) C (v := thx [3, 2] 2) dL_cancel_16 (by decide) ?_
        exact V_iret (pc := 17) C hr rfl h.2 dL_cancel_17
      · replace h := h.2 (by decide)
        refine VX_catch_n (k := 3) C htab [] ⟨0, 9, 12, 21⟩ [⟨0, 9, 15, 15⟩] rfl (fun z hz => absurd hz List.not_mem_nil) (by decide) (by decide) g335 ca_3 dL_cancel_12 rfl (by decide) ?_
        refine V_iconst (pc := 13) C (v := thx [3, 2] 3) dL_cancel_13 (by decide) ?_
        exact V_iret (pc := 14) C hr rfl h.2 dL_cancel_14
def w_L_breaks (a1 : Int32) (S : Sg) (Q : Nat → Int32 → Sg → Prop) : Prop := w_X7_breaks a1 S (wH [3, 2] Q)
theorem ct_L_breaks (hT : xT X = tb1) (hl : l.stackTraces = false) {a1 : Int32} {S : Sg} (h : w_L_breaks a1 S Qa) : CTH X k0 l yL_breaks cL_breaks 4 (some .int) [(0, 9, 12, 21), (0, 9, 15, 15)] 8 130 [Value.ref (enc 0 0), Value.int a1, Value.ref (enc 14 0)] rvI S Qa :=
  CTH_ofV (own := RL) (by decide +kernel) (le8 rfl) rfl hl fun p e R s m args below meth c ad0 C hr hnm htab => by
    refine V_aload_n (pc := 0) C dL_breaks_0 rfl 2 rfl ?_
    refine V_iconst (pc := 1) C (v := 0) dL_breaks_1 rfl ?_
    refine V_aload_n (pc := 2) C dL_breaks_2 rfl 0 rfl ?_
    refine V_iload_n (pc := 3) C dL_breaks_3 rfl 1 rfl ?_
    refine V_callV (pc := 4) C (ct_X7_breaks hT hl h) g612 g613 g614 g615 g60 ⟨by decide, by decide, pl_X7_breaks⟩ (enc_ne63 (by decide)) (ct_obj hT rfl (by decide)) rfl ⟨by decide, by decide⟩ (rest := [Value.int 0, Value.ref (enc 14 0)]) rfl (le8 rfl) dL_breaks_4 (fun v S1 h => ?_) (fun k9 S9 hk h => ?_)
    · replace h := h.1 rfl
      refine V_st (st' := [Value.int v, Value.int 0, Value.ref (enc 14 0)]) rfl ?_
      refine V_i2l (pc := 7) C dL_breaks_7 ?_
      refine V_lastO (pc := 8) C hT dL_breaks_8 (fun T e9 => ?_)
      subst e9
      refine V_goto (pc := 9) (tgt := 18) C dL_breaks_9 (by decide) ?_
      refine V_iconst (pc := 18) C (v := 0) dL_breaks_18 rfl ?_
      exact V_iret (pc := 19) C hr rfl h dL_breaks_19
    · rcases hk with rfl | rfl | rfl
      · replace h := h.2 (by decide)
        exact absurd h.1 (by decide)
      · replace h := h.2 (by decide)
        refine VX_catch_n (k := 2) C htab [⟨0, 9, 12, 21⟩] ⟨0, 9, 15, 15⟩ [] rfl (List.forall_mem_cons.mpr ⟨⟨by decide, _, g335, nc_23⟩, (fun z hz => absurd hz List.not_mem_nil)⟩) (by decide) (by decide) g147 ca_2 dL_breaks_15 rfl (by decide) ?_
        refine V_iconst (pc := 16) C (v := thx [3, 2] 2) dL_breaks_16 (by decide) ?_
        exact V_iret (pc := 17) C hr rfl h.2 dL_breaks_17
      · replace h := h.2 (by decide)
        refine VX_catch_n (k := 3) C htab [] ⟨0, 9, 12, 21⟩ [⟨0, 9, 15, 15⟩] rfl (fun z hz => absurd hz List.not_mem_nil) (by decide) (by decide) g335 ca_3 dL_breaks_12 rfl (by decide) ?_
        refine V_iconst (pc := 13) C (v := thx [3, 2] 3) dL_breaks_13 (by decide) ?_
        exact V_iret (pc := 14) C hr rfl h.2 dL_breaks_14
def w_L_pass (a1 : Int32) (S : Sg) (Q : Nat → Int32 → Sg → Prop) : Prop := w_X7_pass a1 S (wH [1, 2] Q)
theorem ct_L_pass (hT : xT X = tb1) (hl : l.stackTraces = false) {a1 : Int32} {S : Sg} (h : w_L_pass a1 S Qa) : CTH X k0 l yL_pass cL_pass 4 (some .int) [(0, 9, 12, 13), (0, 9, 15, 15)] 13 294 [Value.ref (enc 0 0), Value.int a1, Value.ref (enc 14 0)] rvI S Qa :=
  CTH_ofV (own := RL) (by decide +kernel) (le8 rfl) rfl hl fun p e R s m args below meth c ad0 C hr hnm htab => by
    refine V_aload_n (pc := 0) C dL_pass_0 rfl 2 rfl ?_
    refine V_iconst (pc := 1) C (v := 0) dL_pass_1 rfl ?_
    refine V_aload_n (pc := 2) C dL_pass_2 rfl 0 rfl ?_
    refine V_iload_n (pc := 3) C dL_pass_3 rfl 1 rfl ?_
    refine V_callV (pc := 4) C (ct_X7_pass hT hl h) g620 g621 g622 g623 g60 ⟨by decide, by decide, pl_X7_pass⟩ (enc_ne63 (by decide)) (ct_obj hT rfl (by decide)) rfl ⟨by decide, by decide⟩ (rest := [Value.int 0, Value.ref (enc 14 0)]) rfl (le8 rfl) dL_pass_4 (fun v S1 h => ?_) (fun k9 S9 hk h => ?_)
    · replace h := h.1 rfl
      refine V_st (st' := [Value.int v, Value.int 0, Value.ref (enc 14 0)]) rfl ?_
      refine V_i2l (pc := 7) C dL_pass_7 ?_
      refine V_lastO (pc := 8) C hT dL_pass_8 (fun T e9 => ?_)
      subst e9
      refine V_goto (pc := 9) (tgt := 18) C dL_pass_9 (by decide) ?_
      refine V_iconst (pc := 18) C (v := 0) dL_pass_18 rfl ?_
      exact V_iret (pc := 19) C hr rfl h dL_pass_19
    · rcases hk with rfl | rfl | rfl
      · replace h := h.2 (by decide)
        refine VX_catch_n (k := 1) C htab [] ⟨0, 9, 12, 13⟩ [⟨0, 9, 15, 15⟩] rfl (fun z hz => absurd hz List.not_mem_nil) (by decide) (by decide) g146 ca_1 dL_pass_12 rfl (by decide) ?_
        refine V_iconst (pc := 13) C (v := thx [1, 2] 1) dL_pass_13 (by decide) ?_
        exact V_iret (pc := 14) C hr rfl h.2 dL_pass_14
      · replace h := h.2 (by decide)
        refine VX_catch_n (k := 2) C htab [⟨0, 9, 12, 13⟩] ⟨0, 9, 15, 15⟩ [] rfl (List.forall_mem_cons.mpr ⟨⟨by decide, _, g146, nc_21⟩, (fun z hz => absurd hz List.not_mem_nil)⟩) (by decide) (by decide) g147 ca_2 dL_pass_15 rfl (by decide) ?_
        refine V_iconst (pc := 16) C (v := thx [1, 2] 2) dL_pass_16 (by decide) ?_
        exact V_iret (pc := 17) C hr rfl h.2 dL_pass_17
      · replace h := h.2 (by decide)
        exact absurd h.1 (by decide)
def w_L_hold (a1 a2 a3 a4 : Int32) (S : Sg) (Q : Nat → Int32 → Sg → Prop) : Prop := w_X7_hold a1 a2 a3 a4 S (wH [3, 1, 2] Q)
theorem ct_L_hold (hT : xT X = tb1) (hl : l.stackTraces = false) {a1 a2 a3 a4 : Int32} {S : Sg} (h : w_L_hold a1 a2 a3 a4 S Qa) : CTH X k0 l yL_hold cL_hold 7 (some .int) [(0, 14, 17, 21), (0, 14, 21, 13), (0, 14, 25, 15)] 9 208 [Value.ref (enc 0 0), Value.int a1, Value.int a2, Value.int a3, Value.int a4, Value.ref (enc 14 0)] rvI S Qa :=
  CTH_ofV (own := RL) (by decide +kernel) (le8 rfl) rfl hl fun p e R s m args below meth c ad0 C hr hnm htab => by
    refine V_aload (pc := 0) C dL_hold_0 5 rfl ?_
    refine V_iconst (pc := 2) C (v := 0) dL_hold_2 rfl ?_
    refine V_aload_n (pc := 3) C dL_hold_3 rfl 0 rfl ?_
    refine V_iload_n (pc := 4) C dL_hold_4 rfl 1 rfl ?_
    refine V_iload_n (pc := 5) C dL_hold_5 rfl 2 rfl ?_
    refine V_iload_n (pc := 6) C dL_hold_6 rfl 3 rfl ?_
    refine V_iload (pc := 7) C dL_hold_7 4 rfl ?_
    refine V_callV (pc := 9) C (ct_X7_hold hT hl h) g694 g695 g696 g697 g60 ⟨by decide, by decide, pl_X7_hold⟩ (enc_ne63 (by decide)) (ct_obj hT rfl (by decide)) rfl ⟨by decide, by decide⟩ (rest := [Value.int 0, Value.ref (enc 14 0)]) rfl (le8 rfl) dL_hold_9 (fun v S1 h => ?_) (fun k9 S9 hk h => ?_)
    · replace h := h.1 rfl
      refine V_st (st' := [Value.int v, Value.int 0, Value.ref (enc 14 0)]) rfl ?_
      refine V_i2l (pc := 12) C dL_hold_12 ?_
      refine V_lastO (pc := 13) C hT dL_hold_13 (fun T e9 => ?_)
      subst e9
      refine V_goto (pc := 14) (tgt := 29) C dL_hold_14 (by decide) ?_
      refine V_iconst (pc := 29) C (v := 0) dL_hold_29 rfl ?_
      exact V_iret (pc := 30) C hr rfl h dL_hold_30
    · rcases hk with rfl | rfl | rfl
      · replace h := h.2 (by decide)
        refine VX_catch (k := 1) C htab [⟨0, 14, 17, 21⟩] ⟨0, 14, 21, 13⟩ [⟨0, 14, 25, 15⟩] rfl (List.forall_mem_cons.mpr ⟨⟨by decide, _, g335, nc_13⟩, (fun z hz => absurd hz List.not_mem_nil)⟩) (by decide) (by decide) g146 ca_1 dL_hold_21 (by decide) ?_
        refine V_iconst (pc := 23) C (v := thx [3, 1, 2] 1) dL_hold_23 (by decide) ?_
        exact V_iret (pc := 24) C hr rfl h.2 dL_hold_24
      · replace h := h.2 (by decide)
        refine VX_catch (k := 2) C htab [⟨0, 14, 17, 21⟩, ⟨0, 14, 21, 13⟩] ⟨0, 14, 25, 15⟩ [] rfl (List.forall_mem_cons.mpr ⟨⟨by decide, _, g335, nc_23⟩, (List.forall_mem_cons.mpr ⟨⟨by decide, _, g146, nc_21⟩, (fun z hz => absurd hz List.not_mem_nil)⟩)⟩) (by decide) (by decide) g147 ca_2 dL_hold_25 (by decide) ?_
        refine V_iconst (pc := 27) C (v := thx [3, 1, 2] 2) dL_hold_27 (by decide) ?_
        exact V_iret (pc := 28) C hr rfl h.2 dL_hold_28
      · replace h := h.2 (by decide)
        refine VX_catch (k := 3) C htab [] ⟨0, 14, 17, 21⟩ [⟨0, 14, 21, 13⟩, ⟨0, 14, 25, 15⟩] rfl (fun z hz => absurd hz List.not_mem_nil) (by decide) (by decide) g335 ca_3 dL_hold_17 (by decide) ?_
        refine V_iconst (pc := 19) C (v := thx [3, 1, 2] 3) dL_hold_19 (by decide) ?_
        exact V_iret (pc := 20) C hr rfl h.2 dL_hold_20
def w_L_letGo (a1 : Int32) (S : Sg) (Q : Nat → Int32 → Sg → Prop) : Prop := w_X7_letGo a1 S (wH [3, 2] Q)
theorem ct_L_letGo (hT : xT X = tb1) (hl : l.stackTraces = false) {a1 : Int32} {S : Sg} (h : w_L_letGo a1 S Qa) : CTH X k0 l yL_letGo cL_letGo 4 (some .int) [(0, 9, 12, 21), (0, 9, 15, 15)] 12 270 [Value.ref (enc 0 0), Value.int a1, Value.ref (enc 14 0)] rvI S Qa :=
  CTH_ofV (own := RL) (by decide +kernel) (le8 rfl) rfl hl fun p e R s m args below meth c ad0 C hr hnm htab => by
    refine V_aload_n (pc := 0) C dL_letGo_0 rfl 2 rfl ?_
    refine V_iconst (pc := 1) C (v := 0) dL_letGo_1 rfl ?_
    refine V_aload_n (pc := 2) C dL_letGo_2 rfl 0 rfl ?_
    refine V_iload_n (pc := 3) C dL_letGo_3 rfl 1 rfl ?_
    refine V_callV (pc := 4) C (ct_X7_letGo hT hl h) g733 g734 g735 g736 g60 ⟨by decide, by decide, pl_X7_letGo⟩ (enc_ne63 (by decide)) (ct_obj hT rfl (by decide)) rfl ⟨by decide, by decide⟩ (rest := [Value.int 0, Value.ref (enc 14 0)]) rfl (le8 rfl) dL_letGo_4 (fun v S1 h => ?_) (fun k9 S9 hk h => ?_)
    · replace h := h.1 rfl
      refine V_st (st' := [Value.int v, Value.int 0, Value.ref (enc 14 0)]) rfl ?_
      refine V_i2l (pc := 7) C dL_letGo_7 ?_
      refine V_lastO (pc := 8) C hT dL_letGo_8 (fun T e9 => ?_)
      subst e9
      refine V_goto (pc := 9) (tgt := 18) C dL_letGo_9 (by decide) ?_
      refine V_iconst (pc := 18) C (v := 0) dL_letGo_18 rfl ?_
      exact V_iret (pc := 19) C hr rfl h dL_letGo_19
    · rcases hk with rfl | rfl | rfl
      · replace h := h.2 (by decide)
        exact absurd h.1 (by decide)
      · replace h := h.2 (by decide)
        refine VX_catch_n (k := 2) C htab [⟨0, 9, 12, 21⟩] ⟨0, 9, 15, 15⟩ [] rfl (List.forall_mem_cons.mpr ⟨⟨by decide, _, g335, nc_23⟩, (fun z hz => absurd hz List.not_mem_nil)⟩) (by decide) (by decide) g147 ca_2 dL_letGo_15 rfl (by decide) ?_
        refine V_iconst (pc := 16) C (v := thx [3, 2] 2) dL_letGo_16 (by decide) ?_
        exact V_iret (pc := 17) C hr rfl h.2 dL_letGo_17
      · replace h := h.2 (by decide)
        refine VX_catch_n (k := 3) C htab [] ⟨0, 9, 12, 21⟩ [⟨0, 9, 15, 15⟩] rfl (fun z hz => absurd hz List.not_mem_nil) (by decide) (by decide) g335 ca_3 dL_letGo_12 rfl (by decide) ?_
        refine V_iconst (pc := 13) C (v := thx [3, 2] 3) dL_letGo_13 (by decide) ?_
        exact V_iret (pc := 14) C hr rfl h.2 dL_letGo_14
def w_L_buy (a1 a2 : Int32) (S : Sg) (Q : Nat → Int32 → Sg → Prop) : Prop := w_X7_buy a1 a2 S (wH [3, 1, 2] Q)
theorem ct_L_buy (hT : xT X = tb1) (hl : l.stackTraces = false) {a1 a2 : Int32} {S : Sg} (h : w_L_buy a1 a2 S Qa) : CTH X k0 l yL_buy cL_buy 5 (some .int) [(0, 10, 13, 21), (0, 10, 17, 13), (0, 10, 21, 15)] 10 229 [Value.ref (enc 0 0), Value.int a1, Value.int a2, Value.ref (enc 14 0)] rvI S Qa :=
  CTH_ofV (own := RL) (by decide +kernel) (le8 rfl) rfl hl fun p e R s m args below meth c ad0 C hr hnm htab => by
    refine V_aload_n (pc := 0) C dL_buy_0 rfl 3 rfl ?_
    refine V_iconst (pc := 1) C (v := 0) dL_buy_1 rfl ?_
    refine V_aload_n (pc := 2) C dL_buy_2 rfl 0 rfl ?_
    refine V_iload_n (pc := 3) C dL_buy_3 rfl 1 rfl ?_
    refine V_iload_n (pc := 4) C dL_buy_4 rfl 2 rfl ?_
    refine V_callV (pc := 5) C (ct_X7_buy hT hl h) g750 g751 g752 g753 g60 ⟨by decide, by decide, pl_X7_buy⟩ (enc_ne63 (by decide)) (ct_obj hT rfl (by decide)) rfl ⟨by decide, by decide⟩ (rest := [Value.int 0, Value.ref (enc 14 0)]) rfl (le8 rfl) dL_buy_5 (fun v S1 h => ?_) (fun k9 S9 hk h => ?_)
    · replace h := h.1 rfl
      refine V_st (st' := [Value.int v, Value.int 0, Value.ref (enc 14 0)]) rfl ?_
      refine V_i2l (pc := 8) C dL_buy_8 ?_
      refine V_lastO (pc := 9) C hT dL_buy_9 (fun T e9 => ?_)
      subst e9
      refine V_goto (pc := 10) (tgt := 25) C dL_buy_10 (by decide) ?_
      refine V_iconst (pc := 25) C (v := 0) dL_buy_25 rfl ?_
      exact V_iret (pc := 26) C hr rfl h dL_buy_26
    · rcases hk with rfl | rfl | rfl
      · replace h := h.2 (by decide)
        refine VX_catch (k := 1) C htab [⟨0, 10, 13, 21⟩] ⟨0, 10, 17, 13⟩ [⟨0, 10, 21, 15⟩] rfl (List.forall_mem_cons.mpr ⟨⟨by decide, _, g335, nc_13⟩, (fun z hz => absurd hz List.not_mem_nil)⟩) (by decide) (by decide) g146 ca_1 dL_buy_17 (by decide) ?_
        refine V_iconst (pc := 19) C (v := thx [3, 1, 2] 1) dL_buy_19 (by decide) ?_
        exact V_iret (pc := 20) C hr rfl h.2 dL_buy_20
      · replace h := h.2 (by decide)
        refine VX_catch (k := 2) C htab [⟨0, 10, 13, 21⟩, ⟨0, 10, 17, 13⟩] ⟨0, 10, 21, 15⟩ [] rfl (List.forall_mem_cons.mpr ⟨⟨by decide, _, g335, nc_23⟩, (List.forall_mem_cons.mpr ⟨⟨by decide, _, g146, nc_21⟩, (fun z hz => absurd hz List.not_mem_nil)⟩)⟩) (by decide) (by decide) g147 ca_2 dL_buy_21 (by decide) ?_
        refine V_iconst (pc := 23) C (v := thx [3, 1, 2] 2) dL_buy_23 (by decide) ?_
        exact V_iret (pc := 24) C hr rfl h.2 dL_buy_24
      · replace h := h.2 (by decide)
        refine VX_catch (k := 3) C htab [] ⟨0, 10, 13, 21⟩ [⟨0, 10, 17, 13⟩, ⟨0, 10, 21, 15⟩] rfl (fun z hz => absurd hz List.not_mem_nil) (by decide) (by decide) g335 ca_3 dL_buy_13 (by decide) ?_
        refine V_iconst (pc := 15) C (v := thx [3, 1, 2] 3) dL_buy_15 (by decide) ?_
        exact V_iret (pc := 16) C hr rfl h.2 dL_buy_16
def w_L_sell (a1 a2 a3 a4 : Int32) (S : Sg) (Q : Nat → Int32 → Sg → Prop) : Prop := w_X7_sell a1 a2 a3 a4 S (wH [3, 1, 2] Q)
theorem ct_L_sell (hT : xT X = tb1) (hl : l.stackTraces = false) {a1 a2 a3 a4 : Int32} {S : Sg} (h : w_L_sell a1 a2 a3 a4 S Qa) : CTH X k0 l yL_sell cL_sell 7 (some .int) [(0, 14, 17, 21), (0, 14, 21, 13), (0, 14, 25, 15)] 10 232 [Value.ref (enc 0 0), Value.int a1, Value.int a2, Value.int a3, Value.int a4, Value.ref (enc 14 0)] rvI S Qa :=
  CTH_ofV (own := RL) (by decide +kernel) (le8 rfl) rfl hl fun p e R s m args below meth c ad0 C hr hnm htab => by
    refine V_aload (pc := 0) C dL_sell_0 5 rfl ?_
    refine V_iconst (pc := 2) C (v := 0) dL_sell_2 rfl ?_
    refine V_aload_n (pc := 3) C dL_sell_3 rfl 0 rfl ?_
    refine V_iload_n (pc := 4) C dL_sell_4 rfl 1 rfl ?_
    refine V_iload_n (pc := 5) C dL_sell_5 rfl 2 rfl ?_
    refine V_iload_n (pc := 6) C dL_sell_6 rfl 3 rfl ?_
    refine V_iload (pc := 7) C dL_sell_7 4 rfl ?_
    refine V_callV (pc := 9) C (ct_X7_sell hT hl h) g766 g767 g768 g769 g60 ⟨by decide, by decide, pl_X7_sell⟩ (enc_ne63 (by decide)) (ct_obj hT rfl (by decide)) rfl ⟨by decide, by decide⟩ (rest := [Value.int 0, Value.ref (enc 14 0)]) rfl (le8 rfl) dL_sell_9 (fun v S1 h => ?_) (fun k9 S9 hk h => ?_)
    · replace h := h.1 rfl
      refine V_st (st' := [Value.int v, Value.int 0, Value.ref (enc 14 0)]) rfl ?_
      refine V_i2l (pc := 12) C dL_sell_12 ?_
      refine V_lastO (pc := 13) C hT dL_sell_13 (fun T e9 => ?_)
      subst e9
      refine V_goto (pc := 14) (tgt := 29) C dL_sell_14 (by decide) ?_
      refine V_iconst (pc := 29) C (v := 0) dL_sell_29 rfl ?_
      exact V_iret (pc := 30) C hr rfl h dL_sell_30
    · rcases hk with rfl | rfl | rfl
      · replace h := h.2 (by decide)
        refine VX_catch (k := 1) C htab [⟨0, 14, 17, 21⟩] ⟨0, 14, 21, 13⟩ [⟨0, 14, 25, 15⟩] rfl (List.forall_mem_cons.mpr ⟨⟨by decide, _, g335, nc_13⟩, (fun z hz => absurd hz List.not_mem_nil)⟩) (by decide) (by decide) g146 ca_1 dL_sell_21 (by decide) ?_
        refine V_iconst (pc := 23) C (v := thx [3, 1, 2] 1) dL_sell_23 (by decide) ?_
        exact V_iret (pc := 24) C hr rfl h.2 dL_sell_24
      · replace h := h.2 (by decide)
        refine VX_catch (k := 2) C htab [⟨0, 14, 17, 21⟩, ⟨0, 14, 21, 13⟩] ⟨0, 14, 25, 15⟩ [] rfl (List.forall_mem_cons.mpr ⟨⟨by decide, _, g335, nc_23⟩, (List.forall_mem_cons.mpr ⟨⟨by decide, _, g146, nc_21⟩, (fun z hz => absurd hz List.not_mem_nil)⟩)⟩) (by decide) (by decide) g147 ca_2 dL_sell_25 (by decide) ?_
        refine V_iconst (pc := 27) C (v := thx [3, 1, 2] 2) dL_sell_27 (by decide) ?_
        exact V_iret (pc := 28) C hr rfl h.2 dL_sell_28
      · replace h := h.2 (by decide)
        refine VX_catch (k := 3) C htab [] ⟨0, 14, 17, 21⟩ [⟨0, 14, 21, 13⟩, ⟨0, 14, 25, 15⟩] rfl (fun z hz => absurd hz List.not_mem_nil) (by decide) (by decide) g335 ca_3 dL_sell_17 (by decide) ?_
        refine V_iconst (pc := 19) C (v := thx [3, 1, 2] 3) dL_sell_19 (by decide) ?_
        exact V_iret (pc := 20) C hr rfl h.2 dL_sell_20
def w_L_group (a1 a2 a3 : Int32) (S : Sg) (Q : Nat → Int32 → Sg → Prop) : Prop := w_X7_group a1 a2 a3 S (wH [3, 1, 2] Q)
theorem ct_L_group (hT : xT X = tb1) (hl : l.stackTraces = false) {a1 a2 a3 : Int32} {S : Sg} (h : w_L_group a1 a2 a3 S Qa) : CTH X k0 l yL_group cL_group 6 (some .int) [(0, 12, 15, 21), (0, 12, 19, 13), (0, 12, 23, 15)] 10 233 [Value.ref (enc 0 0), Value.int a1, Value.int a2, Value.int a3, Value.ref (enc 14 0)] rvI S Qa :=
  CTH_ofV (own := RL) (by decide +kernel) (le8 rfl) rfl hl fun p e R s m args below meth c ad0 C hr hnm htab => by
    refine V_aload (pc := 0) C dL_group_0 4 rfl ?_
    refine V_iconst (pc := 2) C (v := 0) dL_group_2 rfl ?_
    refine V_aload_n (pc := 3) C dL_group_3 rfl 0 rfl ?_
    refine V_iload_n (pc := 4) C dL_group_4 rfl 1 rfl ?_
    refine V_iload_n (pc := 5) C dL_group_5 rfl 2 rfl ?_
    refine V_iload_n (pc := 6) C dL_group_6 rfl 3 rfl ?_
    refine V_callV (pc := 7) C (ct_X7_group hT hl h) g773 g774 g775 g776 g60 ⟨by decide, by decide, pl_X7_group⟩ (enc_ne63 (by decide)) (ct_obj hT rfl (by decide)) rfl ⟨by decide, by decide⟩ (rest := [Value.int 0, Value.ref (enc 14 0)]) rfl (le8 rfl) dL_group_7 (fun v S1 h => ?_) (fun k9 S9 hk h => ?_)
    · replace h := h.1 rfl
      refine V_st (st' := [Value.int v, Value.int 0, Value.ref (enc 14 0)]) rfl ?_
      refine V_i2l (pc := 10) C dL_group_10 ?_
      refine V_lastO (pc := 11) C hT dL_group_11 (fun T e9 => ?_)
      subst e9
      refine V_goto (pc := 12) (tgt := 27) C dL_group_12 (by decide) ?_
      refine V_iconst (pc := 27) C (v := 0) dL_group_27 rfl ?_
      exact V_iret (pc := 28) C hr rfl h dL_group_28
    · rcases hk with rfl | rfl | rfl
      · replace h := h.2 (by decide)
        refine VX_catch (k := 1) C htab [⟨0, 12, 15, 21⟩] ⟨0, 12, 19, 13⟩ [⟨0, 12, 23, 15⟩] rfl (List.forall_mem_cons.mpr ⟨⟨by decide, _, g335, nc_13⟩, (fun z hz => absurd hz List.not_mem_nil)⟩) (by decide) (by decide) g146 ca_1 dL_group_19 (by decide) ?_
        refine V_iconst (pc := 21) C (v := thx [3, 1, 2] 1) dL_group_21 (by decide) ?_
        exact V_iret (pc := 22) C hr rfl h.2 dL_group_22
      · replace h := h.2 (by decide)
        refine VX_catch (k := 2) C htab [⟨0, 12, 15, 21⟩, ⟨0, 12, 19, 13⟩] ⟨0, 12, 23, 15⟩ [] rfl (List.forall_mem_cons.mpr ⟨⟨by decide, _, g335, nc_23⟩, (List.forall_mem_cons.mpr ⟨⟨by decide, _, g146, nc_21⟩, (fun z hz => absurd hz List.not_mem_nil)⟩)⟩) (by decide) (by decide) g147 ca_2 dL_group_23 (by decide) ?_
        refine V_iconst (pc := 25) C (v := thx [3, 1, 2] 2) dL_group_25 (by decide) ?_
        exact V_iret (pc := 26) C hr rfl h.2 dL_group_26
      · replace h := h.2 (by decide)
        refine VX_catch (k := 3) C htab [] ⟨0, 12, 15, 21⟩ [⟨0, 12, 19, 13⟩, ⟨0, 12, 23, 15⟩] rfl (fun z hz => absurd hz List.not_mem_nil) (by decide) (by decide) g335 ca_3 dL_group_15 (by decide) ?_
        refine V_iconst (pc := 17) C (v := thx [3, 1, 2] 3) dL_group_17 (by decide) ?_
        exact V_iret (pc := 18) C hr rfl h.2 dL_group_18
def w_L_giveBack (a1 : Int32) (S : Sg) (Q : Nat → Int32 → Sg → Prop) : Prop := w_X7_giveBack a1 S (wH [3, 2] Q)
theorem ct_L_giveBack (hT : xT X = tb1) (hl : l.stackTraces = false) {a1 : Int32} {S : Sg} (h : w_L_giveBack a1 S Qa) : CTH X k0 l yL_giveBack cL_giveBack 4 (some .int) [(0, 9, 12, 21), (0, 9, 15, 15)] 11 251 [Value.ref (enc 0 0), Value.int a1, Value.ref (enc 14 0)] rvI S Qa :=
  CTH_ofV (own := RL) (by decide +kernel) (le8 rfl) rfl hl fun p e R s m args below meth c ad0 C hr hnm htab => by
    refine V_aload_n (pc := 0) C dL_giveBack_0 rfl 2 rfl ?_
    refine V_iconst (pc := 1) C (v := 0) dL_giveBack_1 rfl ?_
    refine V_aload_n (pc := 2) C dL_giveBack_2 rfl 0 rfl ?_
    refine V_iload_n (pc := 3) C dL_giveBack_3 rfl 1 rfl ?_
    refine V_callV (pc := 4) C (ct_X7_giveBack hT hl h) g794 g795 g796 g797 g60 ⟨by decide, by decide, pl_X7_giveBack⟩ (enc_ne63 (by decide)) (ct_obj hT rfl (by decide)) rfl ⟨by decide, by decide⟩ (rest := [Value.int 0, Value.ref (enc 14 0)]) rfl (le8 rfl) dL_giveBack_4 (fun v S1 h => ?_) (fun k9 S9 hk h => ?_)
    · replace h := h.1 rfl
      refine V_st (st' := [Value.int v, Value.int 0, Value.ref (enc 14 0)]) rfl ?_
      refine V_i2l (pc := 7) C dL_giveBack_7 ?_
      refine V_lastO (pc := 8) C hT dL_giveBack_8 (fun T e9 => ?_)
      subst e9
      refine V_goto (pc := 9) (tgt := 18) C dL_giveBack_9 (by decide) ?_
      refine V_iconst (pc := 18) C (v := 0) dL_giveBack_18 rfl ?_
      exact V_iret (pc := 19) C hr rfl h dL_giveBack_19
    · rcases hk with rfl | rfl | rfl
      · replace h := h.2 (by decide)
        exact absurd h.1 (by decide)
      · replace h := h.2 (by decide)
        refine VX_catch_n (k := 2) C htab [⟨0, 9, 12, 21⟩] ⟨0, 9, 15, 15⟩ [] rfl (List.forall_mem_cons.mpr ⟨⟨by decide, _, g335, nc_23⟩, (fun z hz => absurd hz List.not_mem_nil)⟩) (by decide) (by decide) g147 ca_2 dL_giveBack_15 rfl (by decide) ?_
        refine V_iconst (pc := 16) C (v := thx [3, 2] 2) dL_giveBack_16 (by decide) ?_
        exact V_iret (pc := 17) C hr rfl h.2 dL_giveBack_17
      · replace h := h.2 (by decide)
        refine VX_catch_n (k := 3) C htab [] ⟨0, 9, 12, 21⟩ [⟨0, 9, 15, 15⟩] rfl (fun z hz => absurd hz List.not_mem_nil) (by decide) (by decide) g335 ca_3 dL_giveBack_12 rfl (by decide) ?_
        refine V_iconst (pc := 13) C (v := thx [3, 2] 3) dL_giveBack_13 (by decide) ?_
        exact V_iret (pc := 14) C hr rfl h.2 dL_giveBack_14
def w_L_join (a1 a2 a3 : Int32) (S : Sg) (Q : Nat → Int32 → Sg → Prop) : Prop := w_X7_join a1 a2 a3 S (wH [3, 1, 2] Q)
theorem ct_L_join (hT : xT X = tb1) (hl : l.stackTraces = false) {a1 a2 a3 : Int32} {S : Sg} (h : w_L_join a1 a2 a3 S Qa) : CTH X k0 l yL_join cL_join 6 (some .int) [(0, 12, 15, 21), (0, 12, 19, 13), (0, 12, 23, 15)] 8 128 [Value.ref (enc 0 0), Value.int a1, Value.int a2, Value.int a3, Value.ref (enc 14 0)] rvI S Qa :=
  CTH_ofV (own := RL) (by decide +kernel) (le8 rfl) rfl hl fun p e R s m args below meth c ad0 C hr hnm htab => by
    refine V_aload (pc := 0) C dL_join_0 4 rfl ?_
    refine V_iconst (pc := 2) C (v := 0) dL_join_2 rfl ?_
    refine V_aload_n (pc := 3) C dL_join_3 rfl 0 rfl ?_
    refine V_iload_n (pc := 4) C dL_join_4 rfl 1 rfl ?_
    refine V_iload_n (pc := 5) C dL_join_5 rfl 2 rfl ?_
    refine V_iload_n (pc := 6) C dL_join_6 rfl 3 rfl ?_
    refine V_callV (pc := 7) C (ct_X7_join hT hl h) g811 g812 g813 g814 g60 ⟨by decide, by decide, pl_X7_join⟩ (enc_ne63 (by decide)) (ct_obj hT rfl (by decide)) rfl ⟨by decide, by decide⟩ (rest := [Value.int 0, Value.ref (enc 14 0)]) rfl (le8 rfl) dL_join_7 (fun v S1 h => ?_) (fun k9 S9 hk h => ?_)
    · replace h := h.1 rfl
      refine V_st (st' := [Value.int v, Value.int 0, Value.ref (enc 14 0)]) rfl ?_
      refine V_i2l (pc := 10) C dL_join_10 ?_
      refine V_lastO (pc := 11) C hT dL_join_11 (fun T e9 => ?_)
      subst e9
      refine V_goto (pc := 12) (tgt := 27) C dL_join_12 (by decide) ?_
      refine V_iconst (pc := 27) C (v := 0) dL_join_27 rfl ?_
      exact V_iret (pc := 28) C hr rfl h dL_join_28
    · rcases hk with rfl | rfl | rfl
      · replace h := h.2 (by decide)
        refine VX_catch (k := 1) C htab [⟨0, 12, 15, 21⟩] ⟨0, 12, 19, 13⟩ [⟨0, 12, 23, 15⟩] rfl (List.forall_mem_cons.mpr ⟨⟨by decide, _, g335, nc_13⟩, (fun z hz => absurd hz List.not_mem_nil)⟩) (by decide) (by decide) g146 ca_1 dL_join_19 (by decide) ?_
        refine V_iconst (pc := 21) C (v := thx [3, 1, 2] 1) dL_join_21 (by decide) ?_
        exact V_iret (pc := 22) C hr rfl h.2 dL_join_22
      · replace h := h.2 (by decide)
        refine VX_catch (k := 2) C htab [⟨0, 12, 15, 21⟩, ⟨0, 12, 19, 13⟩] ⟨0, 12, 23, 15⟩ [] rfl (List.forall_mem_cons.mpr ⟨⟨by decide, _, g335, nc_23⟩, (List.forall_mem_cons.mpr ⟨⟨by decide, _, g146, nc_21⟩, (fun z hz => absurd hz List.not_mem_nil)⟩)⟩) (by decide) (by decide) g147 ca_2 dL_join_23 (by decide) ?_
        refine V_iconst (pc := 25) C (v := thx [3, 1, 2] 2) dL_join_25 (by decide) ?_
        exact V_iret (pc := 26) C hr rfl h.2 dL_join_26
      · replace h := h.2 (by decide)
        refine VX_catch (k := 3) C htab [] ⟨0, 12, 15, 21⟩ [⟨0, 12, 19, 13⟩, ⟨0, 12, 23, 15⟩] rfl (fun z hz => absurd hz List.not_mem_nil) (by decide) (by decide) g335 ca_3 dL_join_15 (by decide) ?_
        refine V_iconst (pc := 17) C (v := thx [3, 1, 2] 3) dL_join_17 (by decide) ?_
        exact V_iret (pc := 18) C hr rfl h.2 dL_join_18
def w_L_fits (a1 a2 a3 : Int32) (S : Sg) (Q : Nat → Int32 → Sg → Prop) : Prop := w_X7_fits a1 a2 a3 S (wH [3, 1] Q)
theorem ct_L_fits (hT : xT X = tb1) (hl : l.stackTraces = false) {a1 a2 a3 : Int32} {S : Sg} (h : w_L_fits a1 a2 a3 S Qa) : CTH X k0 l yL_fits cL_fits 6 (some .int) [(0, 12, 15, 21), (0, 12, 19, 13)] 8 155 [Value.ref (enc 0 0), Value.int a1, Value.int a2, Value.int a3, Value.ref (enc 14 0)] rvI S Qa :=
  CTH_ofV (own := RL) (by decide +kernel) (le8 rfl) rfl hl fun p e R s m args below meth c ad0 C hr hnm htab => by
    refine V_aload (pc := 0) C dL_fits_0 4 rfl ?_
    refine V_iconst (pc := 2) C (v := 0) dL_fits_2 rfl ?_
    refine V_aload_n (pc := 3) C dL_fits_3 rfl 0 rfl ?_
    refine V_iload_n (pc := 4) C dL_fits_4 rfl 1 rfl ?_
    refine V_iload_n (pc := 5) C dL_fits_5 rfl 2 rfl ?_
    refine V_iload_n (pc := 6) C dL_fits_6 rfl 3 rfl ?_
    refine V_callV (pc := 7) C (ct_X7_fits hT hl h) g828 g829 g830 g831 g60 ⟨by decide, by decide, pl_X7_fits⟩ (enc_ne63 (by decide)) (ct_obj hT rfl (by decide)) rfl ⟨by decide, by decide⟩ (rest := [Value.int 0, Value.ref (enc 14 0)]) rfl (le8 rfl) dL_fits_7 (fun v S1 h => ?_) (fun k9 S9 hk h => ?_)
    · replace h := h.1 rfl
      refine V_st (st' := [Value.int v, Value.int 0, Value.ref (enc 14 0)]) rfl ?_
      refine V_i2l (pc := 10) C dL_fits_10 ?_
      refine V_lastO (pc := 11) C hT dL_fits_11 (fun T e9 => ?_)
      subst e9
      refine V_goto (pc := 12) (tgt := 23) C dL_fits_12 (by decide) ?_
      refine V_iconst (pc := 23) C (v := 0) dL_fits_23 rfl ?_
      exact V_iret (pc := 24) C hr rfl h dL_fits_24
    · rcases hk with rfl | rfl | rfl
      · replace h := h.2 (by decide)
        refine VX_catch (k := 1) C htab [⟨0, 12, 15, 21⟩] ⟨0, 12, 19, 13⟩ [] rfl (List.forall_mem_cons.mpr ⟨⟨by decide, _, g335, nc_13⟩, (fun z hz => absurd hz List.not_mem_nil)⟩) (by decide) (by decide) g146 ca_1 dL_fits_19 (by decide) ?_
        refine V_iconst (pc := 21) C (v := thx [3, 1] 1) dL_fits_21 (by decide) ?_
        exact V_iret (pc := 22) C hr rfl h.2 dL_fits_22
      · replace h := h.2 (by decide)
        exact absurd h.1 (by decide)
      · replace h := h.2 (by decide)
        refine VX_catch (k := 3) C htab [] ⟨0, 12, 15, 21⟩ [⟨0, 12, 19, 13⟩] rfl (fun z hz => absurd hz List.not_mem_nil) (by decide) (by decide) g335 ca_3 dL_fits_15 (by decide) ?_
        refine V_iconst (pc := 17) C (v := thx [3, 1] 3) dL_fits_17 (by decide) ?_
        exact V_iret (pc := 18) C hr rfl h.2 dL_fits_18
def w_L_first (a1 a2 a3 : Int32) (S : Sg) (Q : Nat → Int32 → Sg → Prop) : Prop := w_X7_first a1 a2 a3 S (wH [3, 1] Q)
theorem ct_L_first (hT : xT X = tb1) (hl : l.stackTraces = false) {a1 a2 a3 : Int32} {S : Sg} (h : w_L_first a1 a2 a3 S Qa) : CTH X k0 l yL_first cL_first 6 (some .int) [(0, 12, 15, 21), (0, 12, 19, 13)] 8 158 [Value.ref (enc 0 0), Value.int a1, Value.int a2, Value.int a3, Value.ref (enc 14 0)] rvI S Qa :=
  CTH_ofV (own := RL) (by decide +kernel) (le8 rfl) rfl hl fun p e R s m args below meth c ad0 C hr hnm htab => by
    refine V_aload (pc := 0) C dL_first_0 4 rfl ?_
    refine V_iconst (pc := 2) C (v := 0) dL_first_2 rfl ?_
    refine V_aload_n (pc := 3) C dL_first_3 rfl 0 rfl ?_
    refine V_iload_n (pc := 4) C dL_first_4 rfl 1 rfl ?_
    refine V_iload_n (pc := 5) C dL_first_5 rfl 2 rfl ?_
    refine V_iload_n (pc := 6) C dL_first_6 rfl 3 rfl ?_
    refine V_callV (pc := 7) C (ct_X7_first hT hl h) g835 g836 g837 g838 g60 ⟨by decide, by decide, pl_X7_first⟩ (enc_ne63 (by decide)) (ct_obj hT rfl (by decide)) rfl ⟨by decide, by decide⟩ (rest := [Value.int 0, Value.ref (enc 14 0)]) rfl (le8 rfl) dL_first_7 (fun v S1 h => ?_) (fun k9 S9 hk h => ?_)
    · replace h := h.1 rfl
      refine V_st (st' := [Value.int v, Value.int 0, Value.ref (enc 14 0)]) rfl ?_
      refine V_i2l (pc := 10) C dL_first_10 ?_
      refine V_lastO (pc := 11) C hT dL_first_11 (fun T e9 => ?_)
      subst e9
      refine V_goto (pc := 12) (tgt := 23) C dL_first_12 (by decide) ?_
      refine V_iconst (pc := 23) C (v := 0) dL_first_23 rfl ?_
      exact V_iret (pc := 24) C hr rfl h dL_first_24
    · rcases hk with rfl | rfl | rfl
      · replace h := h.2 (by decide)
        refine VX_catch (k := 1) C htab [⟨0, 12, 15, 21⟩] ⟨0, 12, 19, 13⟩ [] rfl (List.forall_mem_cons.mpr ⟨⟨by decide, _, g335, nc_13⟩, (fun z hz => absurd hz List.not_mem_nil)⟩) (by decide) (by decide) g146 ca_1 dL_first_19 (by decide) ?_
        refine V_iconst (pc := 21) C (v := thx [3, 1] 1) dL_first_21 (by decide) ?_
        exact V_iret (pc := 22) C hr rfl h.2 dL_first_22
      · replace h := h.2 (by decide)
        exact absurd h.1 (by decide)
      · replace h := h.2 (by decide)
        refine VX_catch (k := 3) C htab [] ⟨0, 12, 15, 21⟩ [⟨0, 12, 19, 13⟩] rfl (fun z hz => absurd hz List.not_mem_nil) (by decide) (by decide) g335 ca_3 dL_first_15 (by decide) ?_
        refine V_iconst (pc := 17) C (v := thx [3, 1] 3) dL_first_17 (by decide) ?_
        exact V_iret (pc := 18) C hr rfl h.2 dL_first_18
def w_L_price (a1 a2 : Int32) (S : Sg) (Q : Nat → Int32 → Sg → Prop) : Prop := w_X7_price a1 a2 S (wH [3, 1] Q)
theorem ct_L_price (hT : xT X = tb1) (hl : l.stackTraces = false) {a1 a2 : Int32} {S : Sg} (h : w_L_price a1 a2 S Qa) : CTH X k0 l yL_price cL_price 5 (some .int) [(0, 10, 13, 21), (0, 10, 17, 13)] 8 127 [Value.ref (enc 0 0), Value.int a1, Value.int a2, Value.ref (enc 14 0)] rvI S Qa :=
  CTH_ofV (own := RL) (by decide +kernel) (le8 rfl) rfl hl fun p e R s m args below meth c ad0 C hr hnm htab => by
    refine V_aload_n (pc := 0) C dL_price_0 rfl 3 rfl ?_
    refine V_iconst (pc := 1) C (v := 0) dL_price_1 rfl ?_
    refine V_aload_n (pc := 2) C dL_price_2 rfl 0 rfl ?_
    refine V_iload_n (pc := 3) C dL_price_3 rfl 1 rfl ?_
    refine V_iload_n (pc := 4) C dL_price_4 rfl 2 rfl ?_
    refine V_callV (pc := 5) C (ct_X7_price hT hl h) g847 g848 g849 g850 g60 ⟨by decide, by decide, pl_X7_price⟩ (enc_ne63 (by decide)) (ct_obj hT rfl (by decide)) rfl ⟨by decide, by decide⟩ (rest := [Value.int 0, Value.ref (enc 14 0)]) rfl (le8 rfl) dL_price_5 (fun v S1 h => ?_) (fun k9 S9 hk h => ?_)
    · replace h := h.1 rfl
      refine V_st (st' := [Value.int v, Value.int 0, Value.ref (enc 14 0)]) rfl ?_
      refine V_i2l (pc := 8) C dL_price_8 ?_
      refine V_lastO (pc := 9) C hT dL_price_9 (fun T e9 => ?_)
      subst e9
      refine V_goto (pc := 10) (tgt := 21) C dL_price_10 (by decide) ?_
      refine V_iconst (pc := 21) C (v := 0) dL_price_21 rfl ?_
      exact V_iret (pc := 22) C hr rfl h dL_price_22
    · rcases hk with rfl | rfl | rfl
      · replace h := h.2 (by decide)
        refine VX_catch (k := 1) C htab [⟨0, 10, 13, 21⟩] ⟨0, 10, 17, 13⟩ [] rfl (List.forall_mem_cons.mpr ⟨⟨by decide, _, g335, nc_13⟩, (fun z hz => absurd hz List.not_mem_nil)⟩) (by decide) (by decide) g146 ca_1 dL_price_17 (by decide) ?_
        refine V_iconst (pc := 19) C (v := thx [3, 1] 1) dL_price_19 (by decide) ?_
        exact V_iret (pc := 20) C hr rfl h.2 dL_price_20
      · replace h := h.2 (by decide)
        exact absurd h.1 (by decide)
      · replace h := h.2 (by decide)
        refine VX_catch (k := 3) C htab [] ⟨0, 10, 13, 21⟩ [⟨0, 10, 17, 13⟩] rfl (fun z hz => absurd hz List.not_mem_nil) (by decide) (by decide) g335 ca_3 dL_price_13 (by decide) ?_
        refine V_iconst (pc := 15) C (v := thx [3, 1] 3) dL_price_15 (by decide) ?_
        exact V_iret (pc := 16) C hr rfl h.2 dL_price_16
def w_L_seat (a1 a2 a3 : Int32) (S : Sg) (Q : Nat → Int32 → Sg → Prop) : Prop := w_X7_seat a1 a2 a3 S (wH [3] Q)
theorem ct_L_seat (hT : xT X = tb1) (hl : l.stackTraces = false) {a1 a2 a3 : Int32} {S : Sg} (h : w_L_seat a1 a2 a3 S Qa) : CTH X k0 l yL_seat cL_seat 6 (some .int) [(0, 12, 15, 21)] 8 128 [Value.ref (enc 0 0), Value.int a1, Value.int a2, Value.int a3, Value.ref (enc 14 0)] rvI S Qa :=
  CTH_ofV (own := RL) (by decide +kernel) (le8 rfl) rfl hl fun p e R s m args below meth c ad0 C hr hnm htab => by
    refine V_aload (pc := 0) C dL_seat_0 4 rfl ?_
    refine V_iconst (pc := 2) C (v := 0) dL_seat_2 rfl ?_
    refine V_aload_n (pc := 3) C dL_seat_3 rfl 0 rfl ?_
    refine V_iload_n (pc := 4) C dL_seat_4 rfl 1 rfl ?_
    refine V_iload_n (pc := 5) C dL_seat_5 rfl 2 rfl ?_
    refine V_iload_n (pc := 6) C dL_seat_6 rfl 3 rfl ?_
    refine V_callV (pc := 7) C (ct_X7_seat hT hl h) g854 g855 g856 g857 g60 ⟨by decide, by decide, pl_X7_seat⟩ (enc_ne63 (by decide)) (ct_obj hT rfl (by decide)) rfl ⟨by decide, by decide⟩ (rest := [Value.int 0, Value.ref (enc 14 0)]) rfl (le8 rfl) dL_seat_7 (fun v S1 h => ?_) (fun k9 S9 hk h => ?_)
    · replace h := h.1 rfl
      refine V_st (st' := [Value.int v, Value.int 0, Value.ref (enc 14 0)]) rfl ?_
      refine V_i2l (pc := 10) C dL_seat_10 ?_
      refine V_lastO (pc := 11) C hT dL_seat_11 (fun T e9 => ?_)
      subst e9
      refine V_goto (pc := 12) (tgt := 19) C dL_seat_12 (by decide) ?_
      refine V_iconst (pc := 19) C (v := 0) dL_seat_19 rfl ?_
      exact V_iret (pc := 20) C hr rfl h dL_seat_20
    · rcases hk with rfl | rfl | rfl
      · replace h := h.2 (by decide)
        exact absurd h.1 (by decide)
      · replace h := h.2 (by decide)
        exact absurd h.1 (by decide)
      · replace h := h.2 (by decide)
        refine VX_catch (k := 3) C htab [] ⟨0, 12, 15, 21⟩ [] rfl (fun z hz => absurd hz List.not_mem_nil) (by decide) (by decide) g335 ca_3 dL_seat_15 (by decide) ?_
        refine V_iconst (pc := 17) C (v := thx [3] 3) dL_seat_17 (by decide) ?_
        exact V_iret (pc := 18) C hr rfl h.2 dL_seat_18
def w_L_ofShow (a1 a2 : Int32) (S : Sg) (Q : Nat → Int32 → Sg → Prop) : Prop := w_X7_ofShow a1 a2 S (wH [3] Q)
theorem ct_L_ofShow (hT : xT X = tb1) (hl : l.stackTraces = false) {a1 a2 : Int32} {S : Sg} (h : w_L_ofShow a1 a2 S Qa) : CTH X k0 l yL_ofShow cL_ofShow 5 (some .int) [(0, 10, 13, 21)] 8 126 [Value.ref (enc 0 0), Value.int a1, Value.int a2, Value.ref (enc 14 0)] rvI S Qa :=
  CTH_ofV (own := RL) (by decide +kernel) (le8 rfl) rfl hl fun p e R s m args below meth c ad0 C hr hnm htab => by
    refine V_aload_n (pc := 0) C dL_ofShow_0 rfl 3 rfl ?_
    refine V_iconst (pc := 1) C (v := 0) dL_ofShow_1 rfl ?_
    refine V_aload_n (pc := 2) C dL_ofShow_2 rfl 0 rfl ?_
    refine V_iload_n (pc := 3) C dL_ofShow_3 rfl 1 rfl ?_
    refine V_iload_n (pc := 4) C dL_ofShow_4 rfl 2 rfl ?_
    refine V_callV (pc := 5) C (ct_X7_ofShow hT hl h) g861 g862 g863 g864 g60 ⟨by decide, by decide, pl_X7_ofShow⟩ (enc_ne63 (by decide)) (ct_obj hT rfl (by decide)) rfl ⟨by decide, by decide⟩ (rest := [Value.int 0, Value.ref (enc 14 0)]) rfl (le8 rfl) dL_ofShow_5 (fun v S1 h => ?_) (fun k9 S9 hk h => ?_)
    · replace h := h.1 rfl
      refine V_st (st' := [Value.int v, Value.int 0, Value.ref (enc 14 0)]) rfl ?_
      refine V_i2l (pc := 8) C dL_ofShow_8 ?_
      refine V_lastO (pc := 9) C hT dL_ofShow_9 (fun T e9 => ?_)
      subst e9
      refine V_goto (pc := 10) (tgt := 17) C dL_ofShow_10 (by decide) ?_
      refine V_iconst (pc := 17) C (v := 0) dL_ofShow_17 rfl ?_
      exact V_iret (pc := 18) C hr rfl h dL_ofShow_18
    · rcases hk with rfl | rfl | rfl
      · replace h := h.2 (by decide)
        exact absurd h.1 (by decide)
      · replace h := h.2 (by decide)
        exact absurd h.1 (by decide)
      · replace h := h.2 (by decide)
        refine VX_catch (k := 3) C htab [] ⟨0, 10, 13, 21⟩ [] rfl (fun z hz => absurd hz List.not_mem_nil) (by decide) (by decide) g335 ca_3 dL_ofShow_13 (by decide) ?_
        refine V_iconst (pc := 15) C (v := thx [3] 3) dL_ofShow_15 (by decide) ?_
        exact V_iret (pc := 16) C hr rfl h.2 dL_ofShow_16
def w_L_ofTicket (a1 a2 : Int32) (S : Sg) (Q : Nat → Int32 → Sg → Prop) : Prop := w_X7_ofTicket a1 a2 S (wH [3] Q)
theorem ct_L_ofTicket (hT : xT X = tb1) (hl : l.stackTraces = false) {a1 a2 : Int32} {S : Sg} (h : w_L_ofTicket a1 a2 S Qa) : CTH X k0 l yL_ofTicket cL_ofTicket 5 (some .int) [(0, 10, 13, 21)] 9 147 [Value.ref (enc 0 0), Value.int a1, Value.int a2, Value.ref (enc 14 0)] rvI S Qa :=
  CTH_ofV (own := RL) (by decide +kernel) (le8 rfl) rfl hl fun p e R s m args below meth c ad0 C hr hnm htab => by
    refine V_aload_n (pc := 0) C dL_ofTicket_0 rfl 3 rfl ?_
    refine V_iconst (pc := 1) C (v := 0) dL_ofTicket_1 rfl ?_
    refine V_aload_n (pc := 2) C dL_ofTicket_2 rfl 0 rfl ?_
    refine V_iload_n (pc := 3) C dL_ofTicket_3 rfl 1 rfl ?_
    refine V_iload_n (pc := 4) C dL_ofTicket_4 rfl 2 rfl ?_
    refine V_callV (pc := 5) C (ct_X7_ofTicket hT hl h) g879 g880 g881 g882 g60 ⟨by decide, by decide, pl_X7_ofTicket⟩ (enc_ne63 (by decide)) (ct_obj hT rfl (by decide)) rfl ⟨by decide, by decide⟩ (rest := [Value.int 0, Value.ref (enc 14 0)]) rfl (le8 rfl) dL_ofTicket_5 (fun v S1 h => ?_) (fun k9 S9 hk h => ?_)
    · replace h := h.1 rfl
      refine V_st (st' := [Value.int v, Value.int 0, Value.ref (enc 14 0)]) rfl ?_
      refine V_i2l (pc := 8) C dL_ofTicket_8 ?_
      refine V_lastO (pc := 9) C hT dL_ofTicket_9 (fun T e9 => ?_)
      subst e9
      refine V_goto (pc := 10) (tgt := 17) C dL_ofTicket_10 (by decide) ?_
      refine V_iconst (pc := 17) C (v := 0) dL_ofTicket_17 rfl ?_
      exact V_iret (pc := 18) C hr rfl h dL_ofTicket_18
    · rcases hk with rfl | rfl | rfl
      · replace h := h.2 (by decide)
        exact absurd h.1 (by decide)
      · replace h := h.2 (by decide)
        exact absurd h.1 (by decide)
      · replace h := h.2 (by decide)
        refine VX_catch (k := 3) C htab [] ⟨0, 10, 13, 21⟩ [] rfl (fun z hz => absurd hz List.not_mem_nil) (by decide) (by decide) g335 ca_3 dL_ofTicket_13 (by decide) ?_
        refine V_iconst (pc := 15) C (v := thx [3] 3) dL_ofTicket_15 (by decide) ?_
        exact V_iret (pc := 16) C hr rfl h.2 dL_ofTicket_16
def w_L_ofHall (a1 a2 : Int32) (S : Sg) (Q : Nat → Int32 → Sg → Prop) : Prop := w_X7_ofHall a1 a2 S (wH [3] Q)
theorem ct_L_ofHall (hT : xT X = tb1) (hl : l.stackTraces = false) {a1 a2 : Int32} {S : Sg} (h : w_L_ofHall a1 a2 S Qa) : CTH X k0 l yL_ofHall cL_ofHall 5 (some .int) [(0, 10, 13, 21)] 8 127 [Value.ref (enc 0 0), Value.int a1, Value.int a2, Value.ref (enc 14 0)] rvI S Qa :=
  CTH_ofV (own := RL) (by decide +kernel) (le8 rfl) rfl hl fun p e R s m args below meth c ad0 C hr hnm htab => by
    refine V_aload_n (pc := 0) C dL_ofHall_0 rfl 3 rfl ?_
    refine V_iconst (pc := 1) C (v := 0) dL_ofHall_1 rfl ?_
    refine V_aload_n (pc := 2) C dL_ofHall_2 rfl 0 rfl ?_
    refine V_iload_n (pc := 3) C dL_ofHall_3 rfl 1 rfl ?_
    refine V_iload_n (pc := 4) C dL_ofHall_4 rfl 2 rfl ?_
    refine V_callV (pc := 5) C (ct_X7_ofHall hT hl h) g895 g896 g897 g898 g60 ⟨by decide, by decide, pl_X7_ofHall⟩ (enc_ne63 (by decide)) (ct_obj hT rfl (by decide)) rfl ⟨by decide, by decide⟩ (rest := [Value.int 0, Value.ref (enc 14 0)]) rfl (le8 rfl) dL_ofHall_5 (fun v S1 h => ?_) (fun k9 S9 hk h => ?_)
    · replace h := h.1 rfl
      refine V_st (st' := [Value.int v, Value.int 0, Value.ref (enc 14 0)]) rfl ?_
      refine V_i2l (pc := 8) C dL_ofHall_8 ?_
      refine V_lastO (pc := 9) C hT dL_ofHall_9 (fun T e9 => ?_)
      subst e9
      refine V_goto (pc := 10) (tgt := 17) C dL_ofHall_10 (by decide) ?_
      refine V_iconst (pc := 17) C (v := 0) dL_ofHall_17 rfl ?_
      exact V_iret (pc := 18) C hr rfl h dL_ofHall_18
    · rcases hk with rfl | rfl | rfl
      · replace h := h.2 (by decide)
        exact absurd h.1 (by decide)
      · replace h := h.2 (by decide)
        exact absurd h.1 (by decide)
      · replace h := h.2 (by decide)
        refine VX_catch (k := 3) C htab [] ⟨0, 10, 13, 21⟩ [] rfl (fun z hz => absurd hz List.not_mem_nil) (by decide) (by decide) g335 ca_3 dL_ofHall_13 (by decide) ?_
        refine V_iconst (pc := 15) C (v := thx [3] 3) dL_ofHall_15 (by decide) ?_
        exact V_iret (pc := 16) C hr rfl h.2 dL_ofHall_16
def w_L_takings (a1 a2 : Int32) (S : Sg) (Q : Nat → Int32 → Sg → Prop) : Prop := w_X7_takings a1 a2 S (wH [3, 1] Q)
theorem ct_L_takings (hT : xT X = tb1) (hl : l.stackTraces = false) {a1 a2 : Int32} {S : Sg} (h : w_L_takings a1 a2 S Qa) : CTH X k0 l yL_takings cL_takings 5 (some .int) [(0, 10, 13, 21), (0, 10, 17, 13)] 8 154 [Value.ref (enc 0 0), Value.int a1, Value.int a2, Value.ref (enc 14 0)] rvI S Qa :=
  CTH_ofV (own := RL) (by decide +kernel) (le8 rfl) rfl hl fun p e R s m args below meth c ad0 C hr hnm htab => by
    refine V_aload_n (pc := 0) C dL_takings_0 rfl 3 rfl ?_
    refine V_iconst (pc := 1) C (v := 0) dL_takings_1 rfl ?_
    refine V_aload_n (pc := 2) C dL_takings_2 rfl 0 rfl ?_
    refine V_iload_n (pc := 3) C dL_takings_3 rfl 1 rfl ?_
    refine V_iload_n (pc := 4) C dL_takings_4 rfl 2 rfl ?_
    refine V_callV (pc := 5) C (ct_X7_takings hT hl h) g906 g907 g908 g909 g60 ⟨by decide, by decide, pl_X7_takings⟩ (enc_ne63 (by decide)) (ct_obj hT rfl (by decide)) rfl ⟨by decide, by decide⟩ (rest := [Value.int 0, Value.ref (enc 14 0)]) rfl (le8 rfl) dL_takings_5 (fun v S1 h => ?_) (fun k9 S9 hk h => ?_)
    · replace h := h.1 rfl
      refine V_st (st' := [Value.int v, Value.int 0, Value.ref (enc 14 0)]) rfl ?_
      refine V_i2l (pc := 8) C dL_takings_8 ?_
      refine V_lastO (pc := 9) C hT dL_takings_9 (fun T e9 => ?_)
      subst e9
      refine V_goto (pc := 10) (tgt := 21) C dL_takings_10 (by decide) ?_
      refine V_iconst (pc := 21) C (v := 0) dL_takings_21 rfl ?_
      exact V_iret (pc := 22) C hr rfl h dL_takings_22
    · rcases hk with rfl | rfl | rfl
      · replace h := h.2 (by decide)
        refine VX_catch (k := 1) C htab [⟨0, 10, 13, 21⟩] ⟨0, 10, 17, 13⟩ [] rfl (List.forall_mem_cons.mpr ⟨⟨by decide, _, g335, nc_13⟩, (fun z hz => absurd hz List.not_mem_nil)⟩) (by decide) (by decide) g146 ca_1 dL_takings_17 (by decide) ?_
        refine V_iconst (pc := 19) C (v := thx [3, 1] 1) dL_takings_19 (by decide) ?_
        exact V_iret (pc := 20) C hr rfl h.2 dL_takings_20
      · replace h := h.2 (by decide)
        exact absurd h.1 (by decide)
      · replace h := h.2 (by decide)
        refine VX_catch (k := 3) C htab [] ⟨0, 10, 13, 21⟩ [⟨0, 10, 17, 13⟩] rfl (fun z hz => absurd hz List.not_mem_nil) (by decide) (by decide) g335 ca_3 dL_takings_13 (by decide) ?_
        refine V_iconst (pc := 15) C (v := thx [3, 1] 3) dL_takings_15 (by decide) ?_
        exact V_iret (pc := 16) C hr rfl h.2 dL_takings_16
def w_L_takingsAnew (a1 a2 : Int32) (S : Sg) (Q : Nat → Int32 → Sg → Prop) : Prop := w_X7_takingsAnew a1 a2 S (wH [3, 1] Q)
theorem ct_L_takingsAnew (hT : xT X = tb1) (hl : l.stackTraces = false) {a1 a2 : Int32} {S : Sg} (h : w_L_takingsAnew a1 a2 S Qa) : CTH X k0 l yL_takingsAnew cL_takingsAnew 5 (some .int) [(0, 10, 13, 21), (0, 10, 17, 13)] 8 132 [Value.ref (enc 0 0), Value.int a1, Value.int a2, Value.ref (enc 14 0)] rvI S Qa :=
  CTH_ofV (own := RL) (by decide +kernel) (le8 rfl) rfl hl fun p e R s m args below meth c ad0 C hr hnm htab => by
    refine V_aload_n (pc := 0) C dL_takingsAnew_0 rfl 3 rfl ?_
    refine V_iconst (pc := 1) C (v := 0) dL_takingsAnew_1 rfl ?_
    refine V_aload_n (pc := 2) C dL_takingsAnew_2 rfl 0 rfl ?_
    refine V_iload_n (pc := 3) C dL_takingsAnew_3 rfl 1 rfl ?_
    refine V_iload_n (pc := 4) C dL_takingsAnew_4 rfl 2 rfl ?_
    refine V_callV (pc := 5) C (ct_X7_takingsAnew hT hl h) g925 g926 g927 g928 g60 ⟨by decide, by decide, pl_X7_takingsAnew⟩ (enc_ne63 (by decide)) (ct_obj hT rfl (by decide)) rfl ⟨by decide, by decide⟩ (rest := [Value.int 0, Value.ref (enc 14 0)]) rfl (le8 rfl) dL_takingsAnew_5 (fun v S1 h => ?_) (fun k9 S9 hk h => ?_)
    · replace h := h.1 rfl
      refine V_st (st' := [Value.int v, Value.int 0, Value.ref (enc 14 0)]) rfl ?_
      refine V_i2l (pc := 8) C dL_takingsAnew_8 ?_
      refine V_lastO (pc := 9) C hT dL_takingsAnew_9 (fun T e9 => ?_)
      subst e9
      refine V_goto (pc := 10) (tgt := 21) C dL_takingsAnew_10 (by decide) ?_
      refine V_iconst (pc := 21) C (v := 0) dL_takingsAnew_21 rfl ?_
      exact V_iret (pc := 22) C hr rfl h dL_takingsAnew_22
    · rcases hk with rfl | rfl | rfl
      · replace h := h.2 (by decide)
        refine VX_catch (k := 1) C htab [⟨0, 10, 13, 21⟩] ⟨0, 10, 17, 13⟩ [] rfl (List.forall_mem_cons.mpr ⟨⟨by decide, _, g335, nc_13⟩, (fun z hz => absurd hz List.not_mem_nil)⟩) (by decide) (by decide) g146 ca_1 dL_takingsAnew_17 (by decide) ?_
        refine V_iconst (pc := 19) C (v := thx [3, 1] 1) dL_takingsAnew_19 (by decide) ?_
        exact V_iret (pc := 20) C hr rfl h.2 dL_takingsAnew_20
      · replace h := h.2 (by decide)
        exact absurd h.1 (by decide)
      · replace h := h.2 (by decide)
        refine VX_catch (k := 3) C htab [] ⟨0, 10, 13, 21⟩ [⟨0, 10, 17, 13⟩] rfl (fun z hz => absurd hz List.not_mem_nil) (by decide) (by decide) g335 ca_3 dL_takingsAnew_13 (by decide) ?_
        refine V_iconst (pc := 15) C (v := thx [3, 1] 3) dL_takingsAnew_15 (by decide) ?_
        exact V_iret (pc := 16) C hr rfl h.2 dL_takingsAnew_16
def w_L_share (a1 a2 : Int32) (S : Sg) (Q : Nat → Int32 → Sg → Prop) : Prop := w_X7_share a1 a2 S (wH [3, 1] Q)
theorem ct_L_share (hT : xT X = tb1) (hl : l.stackTraces = false) {a1 a2 : Int32} {S : Sg} (h : w_L_share a1 a2 S Qa) : CTH X k0 l yL_share cL_share 5 (some .int) [(0, 10, 13, 21), (0, 10, 17, 13)] 8 154 [Value.ref (enc 0 0), Value.int a1, Value.int a2, Value.ref (enc 14 0)] rvI S Qa :=
  CTH_ofV (own := RL) (by decide +kernel) (le8 rfl) rfl hl fun p e R s m args below meth c ad0 C hr hnm htab => by
    refine V_aload_n (pc := 0) C dL_share_0 rfl 3 rfl ?_
    refine V_iconst (pc := 1) C (v := 0) dL_share_1 rfl ?_
    refine V_aload_n (pc := 2) C dL_share_2 rfl 0 rfl ?_
    refine V_iload_n (pc := 3) C dL_share_3 rfl 1 rfl ?_
    refine V_iload_n (pc := 4) C dL_share_4 rfl 2 rfl ?_
    refine V_callV (pc := 5) C (ct_X7_share hT hl h) g932 g933 g934 g935 g60 ⟨by decide, by decide, pl_X7_share⟩ (enc_ne63 (by decide)) (ct_obj hT rfl (by decide)) rfl ⟨by decide, by decide⟩ (rest := [Value.int 0, Value.ref (enc 14 0)]) rfl (le8 rfl) dL_share_5 (fun v S1 h => ?_) (fun k9 S9 hk h => ?_)
    · replace h := h.1 rfl
      refine V_st (st' := [Value.int v, Value.int 0, Value.ref (enc 14 0)]) rfl ?_
      refine V_i2l (pc := 8) C dL_share_8 ?_
      refine V_lastO (pc := 9) C hT dL_share_9 (fun T e9 => ?_)
      subst e9
      refine V_goto (pc := 10) (tgt := 21) C dL_share_10 (by decide) ?_
      refine V_iconst (pc := 21) C (v := 0) dL_share_21 rfl ?_
      exact V_iret (pc := 22) C hr rfl h dL_share_22
    · rcases hk with rfl | rfl | rfl
      · replace h := h.2 (by decide)
        refine VX_catch (k := 1) C htab [⟨0, 10, 13, 21⟩] ⟨0, 10, 17, 13⟩ [] rfl (List.forall_mem_cons.mpr ⟨⟨by decide, _, g335, nc_13⟩, (fun z hz => absurd hz List.not_mem_nil)⟩) (by decide) (by decide) g146 ca_1 dL_share_17 (by decide) ?_
        refine V_iconst (pc := 19) C (v := thx [3, 1] 1) dL_share_19 (by decide) ?_
        exact V_iret (pc := 20) C hr rfl h.2 dL_share_20
      · replace h := h.2 (by decide)
        exact absurd h.1 (by decide)
      · replace h := h.2 (by decide)
        refine VX_catch (k := 3) C htab [] ⟨0, 10, 13, 21⟩ [⟨0, 10, 17, 13⟩] rfl (fun z hz => absurd hz List.not_mem_nil) (by decide) (by decide) g335 ca_3 dL_share_13 (by decide) ?_
        refine V_iconst (pc := 15) C (v := thx [3, 1] 3) dL_share_15 (by decide) ?_
        exact V_iret (pc := 16) C hr rfl h.2 dL_share_16
def w_L_mustStay (a1 a2 : Int32) (S : Sg) (Q : Nat → Int32 → Sg → Prop) : Prop := w_X7_mustStay a1 a2 S (wHz [3, 1] Q)
theorem ct_L_mustStay (hT : xT X = tb1) (hl : l.stackTraces = false) {a1 a2 : Int32} {S : Sg} (h : w_L_mustStay a1 a2 S Qa) : CTH X k0 l yL_mustStay cL_mustStay 5 (some .int) [(0, 17, 20, 21), (0, 17, 24, 13)] 8 154 [Value.ref (enc 0 0), Value.int a1, Value.int a2, Value.ref (enc 14 0)] rvI S Qa :=
  CTH_ofV (own := RL) (by decide +kernel) (le8 rfl) rfl hl fun p e R s m args below meth c ad0 C hr hnm htab => by
    refine V_aload_n (pc := 0) C dL_mustStay_0 rfl 3 rfl ?_
    refine V_iconst (pc := 1) C (v := 0) dL_mustStay_1 rfl ?_
    refine V_aload_n (pc := 2) C dL_mustStay_2 rfl 0 rfl ?_
    refine V_iload_n (pc := 3) C dL_mustStay_3 rfl 1 rfl ?_
    refine V_iload_n (pc := 4) C dL_mustStay_4 rfl 2 rfl ?_
    refine V_callV (pc := 5) C (ct_X7_mustStay hT hl h) g944 g945 g946 g947 g60 ⟨by decide, by decide, pl_X7_mustStay⟩ (enc_ne63 (by decide)) (ct_obj hT rfl (by decide)) rfl ⟨by decide, by decide⟩ (rest := [Value.int 0, Value.ref (enc 14 0)]) rfl (le8 rfl) dL_mustStay_5 (fun v S1 h => ?_) (fun k9 S9 hk h => ?_)
    · replace h := h.1 rfl
      refine V_st (st' := [Value.int v, Value.int 0, Value.ref (enc 14 0)]) rfl ?_
      refine V_if_eq (pc := 8) (tgt := 15) C dL_mustStay_8 (by decide) h (fun h => ?_) (fun h => ?_)
      · refine V_lconst (pc := 15) C (v := (0 : Int32).toInt64) dL_mustStay_15 (by decide) ?_
        refine V_lastO (pc := 16) C hT dL_mustStay_16 (fun T e9 => ?_)
        subst e9
        refine V_goto (pc := 17) (tgt := 28) C dL_mustStay_17 (by decide) ?_
        refine V_iconst (pc := 28) C (v := 0) dL_mustStay_28 rfl ?_
        exact V_iret (pc := 29) C hr rfl h dL_mustStay_29
      · refine V_lconst (pc := 11) C (v := (1 : Int32).toInt64) dL_mustStay_11 (by decide) ?_
        refine V_goto (pc := 12) (tgt := 16) C dL_mustStay_12 (by decide) ?_
        refine V_lastO (pc := 16) C hT dL_mustStay_16 (fun T e9 => ?_)
        subst e9
        refine V_goto (pc := 17) (tgt := 28) C dL_mustStay_17 (by decide) ?_
        refine V_iconst (pc := 28) C (v := 0) dL_mustStay_28 rfl ?_
        exact V_iret (pc := 29) C hr rfl h dL_mustStay_29
    · rcases hk with rfl | rfl | rfl
      · replace h := h.2 (by decide)
        refine VX_catch (k := 1) C htab [⟨0, 17, 20, 21⟩] ⟨0, 17, 24, 13⟩ [] rfl (List.forall_mem_cons.mpr ⟨⟨by decide, _, g335, nc_13⟩, (fun z hz => absurd hz List.not_mem_nil)⟩) (by decide) (by decide) g146 ca_1 dL_mustStay_24 (by decide) ?_
        refine V_iconst (pc := 26) C (v := thx [3, 1] 1) dL_mustStay_26 (by decide) ?_
        exact V_iret (pc := 27) C hr rfl h.2 dL_mustStay_27
      · replace h := h.2 (by decide)
        exact absurd h.1 (by decide)
      · replace h := h.2 (by decide)
        refine VX_catch (k := 3) C htab [] ⟨0, 17, 20, 21⟩ [⟨0, 17, 24, 13⟩] rfl (fun z hz => absurd hz List.not_mem_nil) (by decide) (by decide) g335 ca_3 dL_mustStay_20 (by decide) ?_
        refine V_iconst (pc := 22) C (v := thx [3, 1] 3) dL_mustStay_22 (by decide) ?_
        exact V_iret (pc := 23) C hr rfl h.2 dL_mustStay_23
def w_L_audit (a1 a2 : Int32) (S : Sg) (Q : Nat → Int32 → Sg → Prop) : Prop := w_X7_audit a1 a2 S (wH [3, 1] Q)
theorem ct_L_audit (hT : xT X = tb1) (hl : l.stackTraces = false) {a1 a2 : Int32} {S : Sg} (h : w_L_audit a1 a2 S Qa) : CTH X k0 l yL_audit cL_audit 5 (some .int) [(0, 10, 13, 21), (0, 10, 17, 13)] 8 127 [Value.ref (enc 0 0), Value.int a1, Value.int a2, Value.ref (enc 14 0)] rvI S Qa :=
  CTH_ofV (own := RL) (by decide +kernel) (le8 rfl) rfl hl fun p e R s m args below meth c ad0 C hr hnm htab => by
    refine V_aload_n (pc := 0) C dL_audit_0 rfl 3 rfl ?_
    refine V_iconst (pc := 1) C (v := 0) dL_audit_1 rfl ?_
    refine V_aload_n (pc := 2) C dL_audit_2 rfl 0 rfl ?_
    refine V_iload_n (pc := 3) C dL_audit_3 rfl 1 rfl ?_
    refine V_iload_n (pc := 4) C dL_audit_4 rfl 2 rfl ?_
    refine V_callV (pc := 5) C (ct_X7_audit hT hl h) g951 g952 g953 g954 g60 ⟨by decide, by decide, pl_X7_audit⟩ (enc_ne63 (by decide)) (ct_obj hT rfl (by decide)) rfl ⟨by decide, by decide⟩ (rest := [Value.int 0, Value.ref (enc 14 0)]) rfl (le8 rfl) dL_audit_5 (fun v S1 h => ?_) (fun k9 S9 hk h => ?_)
    · replace h := h.1 rfl
      refine V_st (st' := [Value.int v, Value.int 0, Value.ref (enc 14 0)]) rfl ?_
      refine V_i2l (pc := 8) C dL_audit_8 ?_
      refine V_lastO (pc := 9) C hT dL_audit_9 (fun T e9 => ?_)
      subst e9
      refine V_goto (pc := 10) (tgt := 21) C dL_audit_10 (by decide) ?_
      refine V_iconst (pc := 21) C (v := 0) dL_audit_21 rfl ?_
      exact V_iret (pc := 22) C hr rfl h dL_audit_22
    · rcases hk with rfl | rfl | rfl
      · replace h := h.2 (by decide)
        refine VX_catch (k := 1) C htab [⟨0, 10, 13, 21⟩] ⟨0, 10, 17, 13⟩ [] rfl (List.forall_mem_cons.mpr ⟨⟨by decide, _, g335, nc_13⟩, (fun z hz => absurd hz List.not_mem_nil)⟩) (by decide) (by decide) g146 ca_1 dL_audit_17 (by decide) ?_
        refine V_iconst (pc := 19) C (v := thx [3, 1] 1) dL_audit_19 (by decide) ?_
        exact V_iret (pc := 20) C hr rfl h.2 dL_audit_20
      · replace h := h.2 (by decide)
        exact absurd h.1 (by decide)
      · replace h := h.2 (by decide)
        refine VX_catch (k := 3) C htab [] ⟨0, 10, 13, 21⟩ [⟨0, 10, 17, 13⟩] rfl (fun z hz => absurd hz List.not_mem_nil) (by decide) (by decide) g335 ca_3 dL_audit_13 (by decide) ?_
        refine V_iconst (pc := 15) C (v := thx [3, 1] 3) dL_audit_15 (by decide) ?_
        exact V_iret (pc := 16) C hr rfl h.2 dL_audit_16
def w_L_all (a1 : Int32) (S : Sg) (Q : Nat → Int32 → Sg → Prop) : Prop := w_X7_all a1 S (wH [3] Q)
theorem ct_L_all (hT : xT X = tb1) (hl : l.stackTraces = false) {a1 : Int32} {S : Sg} (h : w_L_all a1 S Qa) : CTH X k0 l yL_all cL_all 4 (some .int) [(0, 9, 12, 21)] 7 126 [Value.ref (enc 0 0), Value.int a1, Value.ref (enc 14 0)] rvI S Qa :=
  CTH_ofV (own := RL) (by decide +kernel) (le8 rfl) rfl hl fun p e R s m args below meth c ad0 C hr hnm htab => by
    refine V_aload_n (pc := 0) C dL_all_0 rfl 2 rfl ?_
    refine V_iconst (pc := 1) C (v := 0) dL_all_1 rfl ?_
    refine V_aload_n (pc := 2) C dL_all_2 rfl 0 rfl ?_
    refine V_iload_n (pc := 3) C dL_all_3 rfl 1 rfl ?_
    refine V_callV (pc := 4) C (ct_X7_all hT hl h) g964 g965 g966 g967 g60 ⟨by decide, by decide, pl_X7_all⟩ (enc_ne63 (by decide)) (ct_obj hT rfl (by decide)) rfl ⟨by decide, by decide⟩ (rest := [Value.int 0, Value.ref (enc 14 0)]) rfl (le8 rfl) dL_all_4 (fun v S1 h => ?_) (fun k9 S9 hk h => ?_)
    · replace h := h.1 rfl
      refine V_st (st' := [Value.int v, Value.int 0, Value.ref (enc 14 0)]) rfl ?_
      refine V_i2l (pc := 7) C dL_all_7 ?_
      refine V_lastO (pc := 8) C hT dL_all_8 (fun T e9 => ?_)
      subst e9
      refine V_goto (pc := 9) (tgt := 15) C dL_all_9 (by decide) ?_
      refine V_iconst (pc := 15) C (v := 0) dL_all_15 rfl ?_
      exact V_iret (pc := 16) C hr rfl h dL_all_16
    · rcases hk with rfl | rfl | rfl
      · replace h := h.2 (by decide)
        exact absurd h.1 (by decide)
      · replace h := h.2 (by decide)
        exact absurd h.1 (by decide)
      · replace h := h.2 (by decide)
        refine VX_catch_n (k := 3) C htab [] ⟨0, 9, 12, 21⟩ [] rfl (fun z hz => absurd hz List.not_mem_nil) (by decide) (by decide) g335 ca_3 dL_all_12 rfl (by decide) ?_
        refine V_iconst (pc := 13) C (v := thx [3] 3) dL_all_13 (by decide) ?_
        exact V_iret (pc := 14) C hr rfl h.2 dL_all_14
end WR
