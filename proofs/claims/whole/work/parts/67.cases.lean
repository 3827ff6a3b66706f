/-! the cases of the law's loop (mk67.py writes this part) -/
section CA
variable {X : Cx} {p : Program} {l : Launch} {e : Env} {R : Room} {s : State} {m : MethodId} {args : Array Value} {below : List Frame} {meth : Method} {c : Code} {Q : State → Prop} {S0 : Sg} {ad0 : Nat → Nat}
theorem pl_L_hall : (parseMethodDescriptor yL_hall.desc).map (fun d => d.parameters.length) = some 4 := by decide +kernel
theorem pl_L_lamp : (parseMethodDescriptor yL_lamp.desc).map (fun d => d.parameters.length) = some 5 := by decide +kernel
theorem pl_L_film : (parseMethodDescriptor yL_film.desc).map (fun d => d.parameters.length) = some 5 := by decide +kernel
theorem pl_L_terms : (parseMethodDescriptor yL_terms.desc).map (fun d => d.parameters.length) = some 7 := by decide +kernel
theorem pl_L_key : (parseMethodDescriptor yL_key.desc).map (fun d => d.parameters.length) = some 6 := by decide +kernel
theorem pl_L_spread : (parseMethodDescriptor yL_spread.desc).map (fun d => d.parameters.length) = some 3 := by decide +kernel
theorem pl_L_show : (parseMethodDescriptor yL_show.desc).map (fun d => d.parameters.length) = some 5 := by decide +kernel
theorem pl_L_cancel : (parseMethodDescriptor yL_cancel.desc).map (fun d => d.parameters.length) = some 3 := by decide +kernel
theorem pl_L_breaks : (parseMethodDescriptor yL_breaks.desc).map (fun d => d.parameters.length) = some 3 := by decide +kernel
theorem pl_L_pass : (parseMethodDescriptor yL_pass.desc).map (fun d => d.parameters.length) = some 3 := by decide +kernel
theorem pl_L_hold : (parseMethodDescriptor yL_hold.desc).map (fun d => d.parameters.length) = some 6 := by decide +kernel
theorem pl_L_letGo : (parseMethodDescriptor yL_letGo.desc).map (fun d => d.parameters.length) = some 3 := by decide +kernel
theorem pl_L_buy : (parseMethodDescriptor yL_buy.desc).map (fun d => d.parameters.length) = some 4 := by decide +kernel
theorem pl_L_sell : (parseMethodDescriptor yL_sell.desc).map (fun d => d.parameters.length) = some 6 := by decide +kernel
theorem pl_L_group : (parseMethodDescriptor yL_group.desc).map (fun d => d.parameters.length) = some 5 := by decide +kernel
theorem pl_L_giveBack : (parseMethodDescriptor yL_giveBack.desc).map (fun d => d.parameters.length) = some 3 := by decide +kernel
theorem pl_L_join : (parseMethodDescriptor yL_join.desc).map (fun d => d.parameters.length) = some 5 := by decide +kernel
theorem pl_L_fits : (parseMethodDescriptor yL_fits.desc).map (fun d => d.parameters.length) = some 5 := by decide +kernel
theorem pl_L_first : (parseMethodDescriptor yL_first.desc).map (fun d => d.parameters.length) = some 5 := by decide +kernel
theorem pl_L_price : (parseMethodDescriptor yL_price.desc).map (fun d => d.parameters.length) = some 4 := by decide +kernel
theorem pl_L_seat : (parseMethodDescriptor yL_seat.desc).map (fun d => d.parameters.length) = some 5 := by decide +kernel
theorem pl_L_ofShow : (parseMethodDescriptor yL_ofShow.desc).map (fun d => d.parameters.length) = some 4 := by decide +kernel
theorem pl_L_ofTicket : (parseMethodDescriptor yL_ofTicket.desc).map (fun d => d.parameters.length) = some 4 := by decide +kernel
theorem pl_L_ofHall : (parseMethodDescriptor yL_ofHall.desc).map (fun d => d.parameters.length) = some 4 := by decide +kernel
theorem pl_L_takings : (parseMethodDescriptor yL_takings.desc).map (fun d => d.parameters.length) = some 4 := by decide +kernel
theorem pl_L_takingsAnew : (parseMethodDescriptor yL_takingsAnew.desc).map (fun d => d.parameters.length) = some 4 := by decide +kernel
theorem pl_L_share : (parseMethodDescriptor yL_share.desc).map (fun d => d.parameters.length) = some 4 := by decide +kernel
theorem pl_L_mustStay : (parseMethodDescriptor yL_mustStay.desc).map (fun d => d.parameters.length) = some 4 := by decide +kernel
theorem pl_L_audit : (parseMethodDescriptor yL_audit.desc).map (fun d => d.parameters.length) = some 4 := by decide +kernel
theorem pl_L_all : (parseMethodDescriptor yL_all.desc).map (fun d => d.parameters.length) = some 3 := by decide +kernel
theorem case_hall (hT : xT X = tb1) (hl : l.stackTraces = false) (C : Cn X k0 p l R s m meth c cL_law RL 7 15 584) {L : Nat} {xs : Nat → Int32} (hX : va_X (xB X) L xs s (xH X)) (hbl : xB X < (xH X).size) {x4 : Int32} (hv : ∀ j : Int32, 1 ≤ j → j ≤ 6 → vp_in (x4 + j) L) {K : Sg → Prop} (kk : ∀ {T : Sg}, K T → V X p l e R s m args below meth c 7 Q S0 ad0 T 2369 [(0, Value.ref 63), (1, Value.ref (enc 0 0)), (2, Value.ref (enc 12 0)), (3, Value.ref (enc 14 0)), (4, Value.int x4)] []) {S : Sg} (h : w_L_hall (xs (nt (x4 + 1))) (xs (nt (x4 + 2))) S (LQ (fun S Q => w_X8_hall (xs (nt (x4 + 1))) (xs (nt (x4 + 2))) S Q) K)) : V X p l e R s m args below meth c 7 Q S0 ad0 S 176 [(0, Value.ref 63), (1, Value.ref (enc 0 0)), (2, Value.ref (enc 12 0)), (3, Value.ref (enc 14 0)), (4, Value.int x4)] [] := by
  refine V_aload_n (pc := 176) C dL_law_176 rfl 1 rfl ?_
  refine V_aload_n (pc := 177) C dL_law_177 rfl 0 rfl ?_
  refine V_iload (pc := 178) C dL_law_178 4 rfl ?_
  refine V_iconst (pc := 180) C (v := 1) dL_law_180 rfl ?_
  refine V_iadd (pc := 181) C dL_law_181 ?_
  refine V_sld (pc := 182) C hX hbl (hv 1 (by decide) (by decide)) dL_law_182 ?_
  refine V_aload_n (pc := 183) C dL_law_183 rfl 0 rfl ?_
  refine V_iload (pc := 184) C dL_law_184 4 rfl ?_
  refine V_iconst (pc := 186) C (v := 2) dL_law_186 rfl ?_
  refine V_iadd (pc := 187) C dL_law_187 ?_
  refine V_sld (pc := 188) C hX hbl (hv 2 (by decide) (by decide)) dL_law_188 ?_
  refine V_aload_n (pc := 189) C dL_law_189 rfl 3 rfl ?_
  refine V_callH (pc := 190) C (ct_L_hall hT hl h) g143 g144 g145 g59 ⟨by decide, by decide, pl_L_hall⟩ ⟨by decide, by decide⟩ (rest := []) rfl (le8 rfl) dL_law_190 (fun v S1 h => ?_) (fun k9 S9 hk h => absurd h.1 (by omega))
  replace h := h.2
  refine V_st (st' := [Value.int v]) rfl ?_
  refine V_istore (pc := 193) C dL_law_193 (by decide) rfl ?_
  refine V_aload_n (pc := 195) C dL_law_195 rfl 3 rfl ?_
  refine V_aload_n (pc := 196) C dL_law_196 rfl 1 rfl ?_
  refine V_iload (pc := 197) C dL_law_197 5 rfl ?_
  refine V_iconst (pc := 199) C (v := 1) dL_law_199 rfl ?_
  refine V_iadd (pc := 200) C dL_law_200 ?_
  refine V_sld (pc := 201) C hX hbl (hv 1 (by decide) (by decide)) dL_law_201 ?_
  refine V_aload_n (pc := 202) C dL_law_202 rfl 1 rfl ?_
  refine V_iload (pc := 203) C dL_law_203 5 rfl ?_
  refine V_iconst (pc := 205) C (v := 2) dL_law_205 rfl ?_
  refine V_iadd (pc := 206) C dL_law_206 ?_
  refine V_sld (pc := 207) C hX hbl (hv 2 (by decide) (by decide)) dL_law_207 ?_
  refine V_callV (pc := 208) C (ct_X8_hall hT hl h) g1113 g1114 g1115 g1116 g64 ⟨by decide, by decide, pl_X8_hall⟩ (enc_ne63 (by decide)) (ct_obj hT rfl (by decide)) rfl ⟨by decide, by decide⟩ (rest := []) rfl (le8 rfl) dL_law_208 (fun v2 S2 h => ?_) (fun k9 S9 hk h => absurd h.1 (by omega))
  obtain ⟨-, e1, e2, h⟩ := h
  refine V_st (st' := [Value.int v2]) rfl ?_
  refine V_istore (pc := 211) C dL_law_211 (by decide) rfl ?_
  refine V_aload_n (pc := 213) C dL_law_213 rfl 4 rfl ?_
  refine V_callV (pc := 214) C (ct_X8_thrown hT hl (Qa := fun k3 v3 S3 => k3 = 0 ∧ v3 = S2.1 342 0 ∧ S3 = S2) ⟨rfl, rfl, rfl⟩) g1109 g1110 g1111 g1112 g64 ⟨by decide, by decide, pl_X8_thrown⟩ (enc_ne63 (by decide)) (ct_obj hT rfl (by decide)) rfl ⟨by decide, by decide⟩ (rest := []) rfl (le8 rfl) dL_law_214 (fun v3 S3 h3 => ?_) (fun k9 S9 hk h3 => absurd h3.1 (by omega))
  obtain ⟨-, e3, e4⟩ := h3
  subst e4
  refine V_st (st' := [Value.int v3]) rfl ?_
  refine V_iload (pc := 217) C dL_law_217 1 rfl ?_
  refine V_icmp_eq (pc := 219) (tgt := 224) C dL_law_219 (by decide) ⟨fun z => z, fun z => z⟩ (fun _ => ?_) (fun z => absurd (e3.trans e1) z)
  refine V_iload (pc := 224) C dL_law_224 1 rfl ?_
  refine V_if_ne (pc := 226) (tgt := 241) C dL_law_226 (by decide) ⟨fun z => z, fun z => z⟩ (fun _ => ?_) (fun v0 => ?_)
  · skip
    refine V_goto (pc := 241) (tgt := 2369) C dL_law_241 (by decide) ?_
    refine V_sub [2, 3, 4, 5, 6] rfl ?_
    exact kk h
  refine V_aload_n (pc := 229) C dL_law_229 rfl 5 rfl ?_
  refine V_iconst (pc := 230) C (v := 0) dL_law_230 rfl ?_
  refine V_laldO (pc := 231) C hT dL_law_231 ?_
  refine V_iload (pc := 232) C dL_law_232 0 rfl ?_
  refine V_i2l (pc := 234) C dL_law_234 ?_
  refine V_lcmp (pc := 235) C dL_law_235 ?_
  refine V_if_eq (pc := 236) (tgt := 241) C dL_law_236 (by decide) ⟨fun z => z, fun z => z⟩ (fun _ => ?_) (fun z => absurd (by rw [e2 v0]; exact cmp_self) z)
  refine V_goto (pc := 241) (tgt := 2369) C dL_law_241 (by decide) ?_
  refine V_sub [2, 3, 4, 5, 6] rfl ?_
  exact kk h
theorem case_lamp (hT : xT X = tb1) (hl : l.stackTraces = false) (C : Cn X k0 p l R s m meth c cL_law RL 7 15 584) {L : Nat} {xs : Nat → Int32} (hX : va_X (xB X) L xs s (xH X)) (hbl : xB X < (xH X).size) {x4 : Int32} (hv : ∀ j : Int32, 1 ≤ j → j ≤ 6 → vp_in (x4 + j) L) {K : Sg → Prop} (kk : ∀ {T : Sg}, K T → V X p l e R s m args below meth c 7 Q S0 ad0 T 2369 [(0, Value.ref 63), (1, Value.ref (enc 0 0)), (2, Value.ref (enc 12 0)), (3, Value.ref (enc 14 0)), (4, Value.int x4)] []) {S : Sg} (h : w_L_lamp (xs (nt (x4 + 1))) (xs (nt (x4 + 2))) (if xs (nt (x4 + 3)) = 0 then 0 else 1) S (LQ (fun S Q => w_X8_lamp (xs (nt (x4 + 1))) (xs (nt (x4 + 2))) (if xs (nt (x4 + 3)) = 0 then 0 else 1) S Q) K)) : V X p l e R s m args below meth c 7 Q S0 ad0 S 244 [(0, Value.ref 63), (1, Value.ref (enc 0 0)), (2, Value.ref (enc 12 0)), (3, Value.ref (enc 14 0)), (4, Value.int x4)] [] := by
  refine V_aload_n (pc := 244) C dL_law_244 rfl 1 rfl ?_
  refine V_aload_n (pc := 245) C dL_law_245 rfl 0 rfl ?_
  refine V_iload (pc := 246) C dL_law_246 4 rfl ?_
  refine V_iconst (pc := 248) C (v := 1) dL_law_248 rfl ?_
  refine V_iadd (pc := 249) C dL_law_249 ?_
  refine V_sld (pc := 250) C hX hbl (hv 1 (by decide) (by decide)) dL_law_250 ?_
  refine V_aload_n (pc := 251) C dL_law_251 rfl 0 rfl ?_
  refine V_iload (pc := 252) C dL_law_252 4 rfl ?_
  refine V_iconst (pc := 254) C (v := 2) dL_law_254 rfl ?_
  refine V_iadd (pc := 255) C dL_law_255 ?_
  refine V_sld (pc := 256) C hX hbl (hv 2 (by decide) (by decide)) dL_law_256 ?_
  refine V_aload_n (pc := 257) C dL_law_257 rfl 0 rfl ?_
  refine V_iload (pc := 258) C dL_law_258 4 rfl ?_
  refine V_iconst (pc := 260) C (v := 3) dL_law_260 rfl ?_
  refine V_iadd (pc := 261) C dL_law_261 ?_
  refine V_sld (pc := 262) C hX hbl (hv 3 (by decide) (by decide)) dL_law_262 ?_
  refine V_if_eq (pc := 263) (tgt := 270) C dL_law_263 (by decide) ⟨fun z => z, fun z => z⟩ (fun b0 => ?_) (fun b0 => ?_)
  · rw [if_pos b0] at h
    refine V_iconst (pc := 270) C (v := 0) dL_law_270 rfl ?_
    refine V_aload_n (pc := 271) C dL_law_271 rfl 3 rfl ?_
    refine V_callH (pc := 272) C (ct_L_lamp hT hl h) g332 g333 g334 g59 ⟨by decide, by decide, pl_L_lamp⟩ ⟨by decide, by decide⟩ (rest := []) rfl (le8 rfl) dL_law_272 (fun v S1 h => ?_) (fun k9 S9 hk h => absurd h.1 (by omega))
    replace h := h.2
    refine V_st (st' := [Value.int v]) rfl ?_
    refine V_istore (pc := 275) C dL_law_275 (by decide) rfl ?_
    refine V_aload_n (pc := 277) C dL_law_277 rfl 3 rfl ?_
    refine V_aload_n (pc := 278) C dL_law_278 rfl 1 rfl ?_
    refine V_iload (pc := 279) C dL_law_279 5 rfl ?_
    refine V_iconst (pc := 281) C (v := 1) dL_law_281 rfl ?_
    refine V_iadd (pc := 282) C dL_law_282 ?_
    refine V_sld (pc := 283) C hX hbl (hv 1 (by decide) (by decide)) dL_law_283 ?_
    refine V_aload_n (pc := 284) C dL_law_284 rfl 1 rfl ?_
    refine V_iload (pc := 285) C dL_law_285 5 rfl ?_
    refine V_iconst (pc := 287) C (v := 2) dL_law_287 rfl ?_
    refine V_iadd (pc := 288) C dL_law_288 ?_
    refine V_sld (pc := 289) C hX hbl (hv 2 (by decide) (by decide)) dL_law_289 ?_
    refine V_aload_n (pc := 290) C dL_law_290 rfl 1 rfl ?_
    refine V_iload (pc := 291) C dL_law_291 5 rfl ?_
    refine V_iconst (pc := 293) C (v := 3) dL_law_293 rfl ?_
    refine V_iadd (pc := 294) C dL_law_294 ?_
    refine V_sld (pc := 295) C hX hbl (hv 3 (by decide) (by decide)) dL_law_295 ?_
    refine V_if_eq (pc := 296) (tgt := 303) C dL_law_296 (by decide) (B := False) ⟨fun z => z, fun z => z b0⟩ (fun _ => ?_) (fun z => z.elim)
    refine V_iconst (pc := 303) C (v := 0) dL_law_303 rfl ?_
    refine V_callV (pc := 304) C (ct_X8_lamp hT hl h) g1124 g1125 g1126 g1127 g64 ⟨by decide, by decide, pl_X8_lamp⟩ (enc_ne63 (by decide)) (ct_obj hT rfl (by decide)) rfl ⟨by decide, by decide⟩ (rest := []) rfl (le8 rfl) dL_law_304 (fun v2 S2 h => ?_) (fun k9 S9 hk h => absurd h.1 (by omega))
    obtain ⟨-, e1, e2, h⟩ := h
    refine V_st (st' := [Value.int v2]) rfl ?_
    refine V_istore (pc := 307) C dL_law_307 (by decide) rfl ?_
    refine V_aload_n (pc := 309) C dL_law_309 rfl 4 rfl ?_
    refine V_callV (pc := 310) C (ct_X8_thrown hT hl (Qa := fun k3 v3 S3 => k3 = 0 ∧ v3 = S2.1 342 0 ∧ S3 = S2) ⟨rfl, rfl, rfl⟩) g1109 g1110 g1111 g1112 g64 ⟨by decide, by decide, pl_X8_thrown⟩ (enc_ne63 (by decide)) (ct_obj hT rfl (by decide)) rfl ⟨by decide, by decide⟩ (rest := []) rfl (le8 rfl) dL_law_310 (fun v3 S3 h3 => ?_) (fun k9 S9 hk h3 => absurd h3.1 (by omega))
    obtain ⟨-, e3, e4⟩ := h3
    subst e4
    refine V_st (st' := [Value.int v3]) rfl ?_
    refine V_iload (pc := 313) C dL_law_313 1 rfl ?_
    refine V_icmp_eq (pc := 315) (tgt := 320) C dL_law_315 (by decide) ⟨fun z => z, fun z => z⟩ (fun _ => ?_) (fun z => absurd (e3.trans e1) z)
    refine V_iload (pc := 320) C dL_law_320 1 rfl ?_
    refine V_if_ne (pc := 322) (tgt := 337) C dL_law_322 (by decide) ⟨fun z => z, fun z => z⟩ (fun _ => ?_) (fun v0 => ?_)
    · skip
      refine V_goto (pc := 337) (tgt := 2369) C dL_law_337 (by decide) ?_
      refine V_sub [2, 3, 4, 5, 6] rfl ?_
      exact kk h
    refine V_aload_n (pc := 325) C dL_law_325 rfl 5 rfl ?_
    refine V_iconst (pc := 326) C (v := 0) dL_law_326 rfl ?_
    refine V_laldO (pc := 327) C hT dL_law_327 ?_
    refine V_iload (pc := 328) C dL_law_328 0 rfl ?_
    refine V_i2l (pc := 330) C dL_law_330 ?_
    refine V_lcmp (pc := 331) C dL_law_331 ?_
    refine V_if_eq (pc := 332) (tgt := 337) C dL_law_332 (by decide) ⟨fun z => z, fun z => z⟩ (fun _ => ?_) (fun z => absurd (by rw [e2 v0]; exact cmp_self) z)
    refine V_goto (pc := 337) (tgt := 2369) C dL_law_337 (by decide) ?_
    refine V_sub [2, 3, 4, 5, 6] rfl ?_
    exact kk h
  · rw [if_neg b0] at h
    refine V_iconst (pc := 266) C (v := 1) dL_law_266 rfl ?_
    refine V_goto (pc := 267) (tgt := 271) C dL_law_267 (by decide) ?_
    refine V_aload_n (pc := 271) C dL_law_271 rfl 3 rfl ?_
    refine V_callH (pc := 272) C (ct_L_lamp hT hl h) g332 g333 g334 g59 ⟨by decide, by decide, pl_L_lamp⟩ ⟨by decide, by decide⟩ (rest := []) rfl (le8 rfl) dL_law_272 (fun v S1 h => ?_) (fun k9 S9 hk h => absurd h.1 (by omega))
    replace h := h.2
    refine V_st (st' := [Value.int v]) rfl ?_
    refine V_istore (pc := 275) C dL_law_275 (by decide) rfl ?_
    refine V_aload_n (pc := 277) C dL_law_277 rfl 3 rfl ?_
    refine V_aload_n (pc := 278) C dL_law_278 rfl 1 rfl ?_
    refine V_iload (pc := 279) C dL_law_279 5 rfl ?_
    refine V_iconst (pc := 281) C (v := 1) dL_law_281 rfl ?_
    refine V_iadd (pc := 282) C dL_law_282 ?_
    refine V_sld (pc := 283) C hX hbl (hv 1 (by decide) (by decide)) dL_law_283 ?_
    refine V_aload_n (pc := 284) C dL_law_284 rfl 1 rfl ?_
    refine V_iload (pc := 285) C dL_law_285 5 rfl ?_
    refine V_iconst (pc := 287) C (v := 2) dL_law_287 rfl ?_
    refine V_iadd (pc := 288) C dL_law_288 ?_
    refine V_sld (pc := 289) C hX hbl (hv 2 (by decide) (by decide)) dL_law_289 ?_
    refine V_aload_n (pc := 290) C dL_law_290 rfl 1 rfl ?_
    refine V_iload (pc := 291) C dL_law_291 5 rfl ?_
    refine V_iconst (pc := 293) C (v := 3) dL_law_293 rfl ?_
    refine V_iadd (pc := 294) C dL_law_294 ?_
    refine V_sld (pc := 295) C hX hbl (hv 3 (by decide) (by decide)) dL_law_295 ?_
    refine V_if_eq (pc := 296) (tgt := 303) C dL_law_296 (by decide) (A := False) ⟨fun z => b0 z, fun z => z⟩ (fun z => z.elim) (fun _ => ?_)
    refine V_iconst (pc := 299) C (v := 1) dL_law_299 rfl ?_
    refine V_goto (pc := 300) (tgt := 304) C dL_law_300 (by decide) ?_
    refine V_callV (pc := 304) C (ct_X8_lamp hT hl h) g1124 g1125 g1126 g1127 g64 ⟨by decide, by decide, pl_X8_lamp⟩ (enc_ne63 (by decide)) (ct_obj hT rfl (by decide)) rfl ⟨by decide, by decide⟩ (rest := []) rfl (le8 rfl) dL_law_304 (fun v2 S2 h => ?_) (fun k9 S9 hk h => absurd h.1 (by omega))
    obtain ⟨-, e1, e2, h⟩ := h
    refine V_st (st' := [Value.int v2]) rfl ?_
    refine V_istore (pc := 307) C dL_law_307 (by decide) rfl ?_
    refine V_aload_n (pc := 309) C dL_law_309 rfl 4 rfl ?_
    refine V_callV (pc := 310) C (ct_X8_thrown hT hl (Qa := fun k3 v3 S3 => k3 = 0 ∧ v3 = S2.1 342 0 ∧ S3 = S2) ⟨rfl, rfl, rfl⟩) g1109 g1110 g1111 g1112 g64 ⟨by decide, by decide, pl_X8_thrown⟩ (enc_ne63 (by decide)) (ct_obj hT rfl (by decide)) rfl ⟨by decide, by decide⟩ (rest := []) rfl (le8 rfl) dL_law_310 (fun v3 S3 h3 => ?_) (fun k9 S9 hk h3 => absurd h3.1 (by omega))
    obtain ⟨-, e3, e4⟩ := h3
    subst e4
    refine V_st (st' := [Value.int v3]) rfl ?_
    refine V_iload (pc := 313) C dL_law_313 1 rfl ?_
    refine V_icmp_eq (pc := 315) (tgt := 320) C dL_law_315 (by decide) ⟨fun z => z, fun z => z⟩ (fun _ => ?_) (fun z => absurd (e3.trans e1) z)
    refine V_iload (pc := 320) C dL_law_320 1 rfl ?_
    refine V_if_ne (pc := 322) (tgt := 337) C dL_law_322 (by decide) ⟨fun z => z, fun z => z⟩ (fun _ => ?_) (fun v0 => ?_)
    · skip
      refine V_goto (pc := 337) (tgt := 2369) C dL_law_337 (by decide) ?_
      refine V_sub [2, 3, 4, 5, 6] rfl ?_
      exact kk h
    refine V_aload_n (pc := 325) C dL_law_325 rfl 5 rfl ?_
    refine V_iconst (pc := 326) C (v := 0) dL_law_326 rfl ?_
    refine V_laldO (pc := 327) C hT dL_law_327 ?_
    refine V_iload (pc := 328) C dL_law_328 0 rfl ?_
    refine V_i2l (pc := 330) C dL_law_330 ?_
    refine V_lcmp (pc := 331) C dL_law_331 ?_
    refine V_if_eq (pc := 332) (tgt := 337) C dL_law_332 (by decide) ⟨fun z => z, fun z => z⟩ (fun _ => ?_) (fun z => absurd (by rw [e2 v0]; exact cmp_self) z)
    refine V_goto (pc := 337) (tgt := 2369) C dL_law_337 (by decide) ?_
    refine V_sub [2, 3, 4, 5, 6] rfl ?_
    exact kk h
theorem case_film (hT : xT X = tb1) (hl : l.stackTraces = false) (C : Cn X k0 p l R s m meth c cL_law RL 7 15 584) {L : Nat} {xs : Nat → Int32} (hX : va_X (xB X) L xs s (xH X)) (hbl : xB X < (xH X).size) {x4 : Int32} (hv : ∀ j : Int32, 1 ≤ j → j ≤ 6 → vp_in (x4 + j) L) {K : Sg → Prop} (kk : ∀ {T : Sg}, K T → V X p l e R s m args below meth c 7 Q S0 ad0 T 2369 [(0, Value.ref 63), (1, Value.ref (enc 0 0)), (2, Value.ref (enc 12 0)), (3, Value.ref (enc 14 0)), (4, Value.int x4)] []) {S : Sg} (h : w_L_film (xs (nt (x4 + 1))) (xs (nt (x4 + 2))) (xs (nt (x4 + 3))) S (LQ (fun S Q => w_X8_film (xs (nt (x4 + 1))) (xs (nt (x4 + 2))) (xs (nt (x4 + 3))) S Q) K)) : V X p l e R s m args below meth c 7 Q S0 ad0 S 340 [(0, Value.ref 63), (1, Value.ref (enc 0 0)), (2, Value.ref (enc 12 0)), (3, Value.ref (enc 14 0)), (4, Value.int x4)] [] := by
  refine V_aload_n (pc := 340) C dL_law_340 rfl 1 rfl ?_
  refine V_aload_n (pc := 341) C dL_law_341 rfl 0 rfl ?_
  refine V_iload (pc := 342) C dL_law_342 4 rfl ?_
  refine V_iconst (pc := 344) C (v := 1) dL_law_344 rfl ?_
  refine V_iadd (pc := 345) C dL_law_345 ?_
  refine V_sld (pc := 346) C hX hbl (hv 1 (by decide) (by decide)) dL_law_346 ?_
  refine V_aload_n (pc := 347) C dL_law_347 rfl 0 rfl ?_
  refine V_iload (pc := 348) C dL_law_348 4 rfl ?_
  refine V_iconst (pc := 350) C (v := 2) dL_law_350 rfl ?_
  refine V_iadd (pc := 351) C dL_law_351 ?_
  refine V_sld (pc := 352) C hX hbl (hv 2 (by decide) (by decide)) dL_law_352 ?_
  refine V_aload_n (pc := 353) C dL_law_353 rfl 0 rfl ?_
  refine V_iload (pc := 354) C dL_law_354 4 rfl ?_
  refine V_iconst (pc := 356) C (v := 3) dL_law_356 rfl ?_
  refine V_iadd (pc := 357) C dL_law_357 ?_
  refine V_sld (pc := 358) C hX hbl (hv 3 (by decide) (by decide)) dL_law_358 ?_
  refine V_aload_n (pc := 359) C dL_law_359 rfl 3 rfl ?_
  refine V_callH (pc := 360) C (ct_L_film hT hl h) g375 g376 g377 g59 ⟨by decide, by decide, pl_L_film⟩ ⟨by decide, by decide⟩ (rest := []) rfl (le8 rfl) dL_law_360 (fun v S1 h => ?_) (fun k9 S9 hk h => absurd h.1 (by omega))
  replace h := h.2
  refine V_st (st' := [Value.int v]) rfl ?_
  refine V_istore (pc := 363) C dL_law_363 (by decide) rfl ?_
  refine V_aload_n (pc := 365) C dL_law_365 rfl 3 rfl ?_
  refine V_aload_n (pc := 366) C dL_law_366 rfl 1 rfl ?_
  refine V_iload (pc := 367) C dL_law_367 5 rfl ?_
  refine V_iconst (pc := 369) C (v := 1) dL_law_369 rfl ?_
  refine V_iadd (pc := 370) C dL_law_370 ?_
  refine V_sld (pc := 371) C hX hbl (hv 1 (by decide) (by decide)) dL_law_371 ?_
  refine V_aload_n (pc := 372) C dL_law_372 rfl 1 rfl ?_
  refine V_iload (pc := 373) C dL_law_373 5 rfl ?_
  refine V_iconst (pc := 375) C (v := 2) dL_law_375 rfl ?_
  refine V_iadd (pc := 376) C dL_law_376 ?_
  refine V_sld (pc := 377) C hX hbl (hv 2 (by decide) (by decide)) dL_law_377 ?_
  refine V_aload_n (pc := 378) C dL_law_378 rfl 1 rfl ?_
  refine V_iload (pc := 379) C dL_law_379 5 rfl ?_
  refine V_iconst (pc := 381) C (v := 3) dL_law_381 rfl ?_
  refine V_iadd (pc := 382) C dL_law_382 ?_
  refine V_sld (pc := 383) C hX hbl (hv 3 (by decide) (by decide)) dL_law_383 ?_
  refine V_callV (pc := 384) C (ct_X8_film hT hl h) g1133 g1134 g1135 g1136 g64 ⟨by decide, by decide, pl_X8_film⟩ (enc_ne63 (by decide)) (ct_obj hT rfl (by decide)) rfl ⟨by decide, by decide⟩ (rest := []) rfl (le8 rfl) dL_law_384 (fun v2 S2 h => ?_) (fun k9 S9 hk h => absurd h.1 (by omega))
  obtain ⟨-, e1, e2, h⟩ := h
  refine V_st (st' := [Value.int v2]) rfl ?_
  refine V_istore (pc := 387) C dL_law_387 (by decide) rfl ?_
  refine V_aload_n (pc := 389) C dL_law_389 rfl 4 rfl ?_
  refine V_callV (pc := 390) C (ct_X8_thrown hT hl (Qa := fun k3 v3 S3 => k3 = 0 ∧ v3 = S2.1 342 0 ∧ S3 = S2) ⟨rfl, rfl, rfl⟩) g1109 g1110 g1111 g1112 g64 ⟨by decide, by decide, pl_X8_thrown⟩ (enc_ne63 (by decide)) (ct_obj hT rfl (by decide)) rfl ⟨by decide, by decide⟩ (rest := []) rfl (le8 rfl) dL_law_390 (fun v3 S3 h3 => ?_) (fun k9 S9 hk h3 => absurd h3.1 (by omega))
  obtain ⟨-, e3, e4⟩ := h3
  subst e4
  refine V_st (st' := [Value.int v3]) rfl ?_
  refine V_iload (pc := 393) C dL_law_393 1 rfl ?_
  refine V_icmp_eq (pc := 395) (tgt := 400) C dL_law_395 (by decide) ⟨fun z => z, fun z => z⟩ (fun _ => ?_) (fun z => absurd (e3.trans e1) z)
  refine V_iload (pc := 400) C dL_law_400 1 rfl ?_
  refine V_if_ne (pc := 402) (tgt := 417) C dL_law_402 (by decide) ⟨fun z => z, fun z => z⟩ (fun _ => ?_) (fun v0 => ?_)
  · skip
    refine V_goto (pc := 417) (tgt := 2369) C dL_law_417 (by decide) ?_
    refine V_sub [2, 3, 4, 5, 6] rfl ?_
    exact kk h
  refine V_aload_n (pc := 405) C dL_law_405 rfl 5 rfl ?_
  refine V_iconst (pc := 406) C (v := 0) dL_law_406 rfl ?_
  refine V_laldO (pc := 407) C hT dL_law_407 ?_
  refine V_iload (pc := 408) C dL_law_408 0 rfl ?_
  refine V_i2l (pc := 410) C dL_law_410 ?_
  refine V_lcmp (pc := 411) C dL_law_411 ?_
  refine V_if_eq (pc := 412) (tgt := 417) C dL_law_412 (by decide) ⟨fun z => z, fun z => z⟩ (fun _ => ?_) (fun z => absurd (by rw [e2 v0]; exact cmp_self) z)
  refine V_goto (pc := 417) (tgt := 2369) C dL_law_417 (by decide) ?_
  refine V_sub [2, 3, 4, 5, 6] rfl ?_
  exact kk h
theorem case_terms (hT : xT X = tb1) (hl : l.stackTraces = false) (C : Cn X k0 p l R s m meth c cL_law RL 7 15 584) {L : Nat} {xs : Nat → Int32} (hX : va_X (xB X) L xs s (xH X)) (hbl : xB X < (xH X).size) {x4 : Int32} (hv : ∀ j : Int32, 1 ≤ j → j ≤ 6 → vp_in (x4 + j) L) {K : Sg → Prop} (kk : ∀ {T : Sg}, K T → V X p l e R s m args below meth c 7 Q S0 ad0 T 2369 [(0, Value.ref 63), (1, Value.ref (enc 0 0)), (2, Value.ref (enc 12 0)), (3, Value.ref (enc 14 0)), (4, Value.int x4)] []) {S : Sg} (h : w_L_terms (xs (nt (x4 + 1))) (xs (nt (x4 + 2))) (xs (nt (x4 + 3))) (xs (nt (x4 + 4))) (xs (nt (x4 + 5))) (xs (nt (x4 + 6))) S (LQv (fun S Q => w_X8_terms (xs (nt (x4 + 1))) (xs (nt (x4 + 2))) (xs (nt (x4 + 3))) (xs (nt (x4 + 4))) (xs (nt (x4 + 5))) (xs (nt (x4 + 6))) S Q) K)) : V X p l e R s m args below meth c 7 Q S0 ad0 S 420 [(0, Value.ref 63), (1, Value.ref (enc 0 0)), (2, Value.ref (enc 12 0)), (3, Value.ref (enc 14 0)), (4, Value.int x4)] [] := by
  refine V_aload_n (pc := 420) C dL_law_420 rfl 1 rfl ?_
  refine V_aload_n (pc := 421) C dL_law_421 rfl 0 rfl ?_
  refine V_iload (pc := 422) C dL_law_422 4 rfl ?_
  refine V_iconst (pc := 424) C (v := 1) dL_law_424 rfl ?_
  refine V_iadd (pc := 425) C dL_law_425 ?_
  refine V_sld (pc := 426) C hX hbl (hv 1 (by decide) (by decide)) dL_law_426 ?_
  refine V_aload_n (pc := 427) C dL_law_427 rfl 0 rfl ?_
  refine V_iload (pc := 428) C dL_law_428 4 rfl ?_
  refine V_iconst (pc := 430) C (v := 2) dL_law_430 rfl ?_
  refine V_iadd (pc := 431) C dL_law_431 ?_
  refine V_sld (pc := 432) C hX hbl (hv 2 (by decide) (by decide)) dL_law_432 ?_
  refine V_aload_n (pc := 433) C dL_law_433 rfl 0 rfl ?_
  refine V_iload (pc := 434) C dL_law_434 4 rfl ?_
  refine V_iconst (pc := 436) C (v := 3) dL_law_436 rfl ?_
  refine V_iadd (pc := 437) C dL_law_437 ?_
  refine V_sld (pc := 438) C hX hbl (hv 3 (by decide) (by decide)) dL_law_438 ?_
  refine V_aload_n (pc := 439) C dL_law_439 rfl 0 rfl ?_
  refine V_iload (pc := 440) C dL_law_440 4 rfl ?_
  refine V_iconst (pc := 442) C (v := 4) dL_law_442 rfl ?_
  refine V_iadd (pc := 443) C dL_law_443 ?_
  refine V_sld (pc := 444) C hX hbl (hv 4 (by decide) (by decide)) dL_law_444 ?_
  refine V_aload_n (pc := 445) C dL_law_445 rfl 0 rfl ?_
  refine V_iload (pc := 446) C dL_law_446 4 rfl ?_
  refine V_iconst (pc := 448) C (v := 5) dL_law_448 rfl ?_
  refine V_iadd (pc := 449) C dL_law_449 ?_
  refine V_sld (pc := 450) C hX hbl (hv 5 (by decide) (by decide)) dL_law_450 ?_
  refine V_aload_n (pc := 451) C dL_law_451 rfl 0 rfl ?_
  refine V_iload (pc := 452) C dL_law_452 4 rfl ?_
  refine V_bipush (pc := 454) C (v := 6) dL_law_454 rfl ?_
  refine V_iadd (pc := 456) C dL_law_456 ?_
  refine V_sld (pc := 457) C hX hbl (hv 6 (by decide) (by decide)) dL_law_457 ?_
  refine V_callH (pc := 458) C (ct_L_terms hT hl h) g427 g428 g429 g59 ⟨by decide, by decide, pl_L_terms⟩ ⟨by decide, by decide⟩ (rest := []) rfl (le8 rfl) dL_law_458 (fun v S1 h => ?_) (fun k9 S9 hk h => absurd h.1 (by omega))
  replace h := h.2
  refine V_st (st' := [Value.int v]) rfl ?_
  refine V_istore (pc := 461) C dL_law_461 (by decide) rfl ?_
  refine V_aload_n (pc := 463) C dL_law_463 rfl 3 rfl ?_
  refine V_aload_n (pc := 464) C dL_law_464 rfl 1 rfl ?_
  refine V_iload (pc := 465) C dL_law_465 5 rfl ?_
  refine V_iconst (pc := 467) C (v := 1) dL_law_467 rfl ?_
  refine V_iadd (pc := 468) C dL_law_468 ?_
  refine V_sld (pc := 469) C hX hbl (hv 1 (by decide) (by decide)) dL_law_469 ?_
  refine V_aload_n (pc := 470) C dL_law_470 rfl 1 rfl ?_
  refine V_iload (pc := 471) C dL_law_471 5 rfl ?_
  refine V_iconst (pc := 473) C (v := 2) dL_law_473 rfl ?_
  refine V_iadd (pc := 474) C dL_law_474 ?_
  refine V_sld (pc := 475) C hX hbl (hv 2 (by decide) (by decide)) dL_law_475 ?_
  refine V_aload_n (pc := 476) C dL_law_476 rfl 1 rfl ?_
  refine V_iload (pc := 477) C dL_law_477 5 rfl ?_
  refine V_iconst (pc := 479) C (v := 3) dL_law_479 rfl ?_
  refine V_iadd (pc := 480) C dL_law_480 ?_
  refine V_sld (pc := 481) C hX hbl (hv 3 (by decide) (by decide)) dL_law_481 ?_
  refine V_aload_n (pc := 482) C dL_law_482 rfl 1 rfl ?_
  refine V_iload (pc := 483) C dL_law_483 5 rfl ?_
  refine V_iconst (pc := 485) C (v := 4) dL_law_485 rfl ?_
  refine V_iadd (pc := 486) C dL_law_486 ?_
  refine V_sld (pc := 487) C hX hbl (hv 4 (by decide) (by decide)) dL_law_487 ?_
  refine V_aload_n (pc := 488) C dL_law_488 rfl 1 rfl ?_
  refine V_iload (pc := 489) C dL_law_489 5 rfl ?_
  refine V_iconst (pc := 491) C (v := 5) dL_law_491 rfl ?_
  refine V_iadd (pc := 492) C dL_law_492 ?_
  refine V_sld (pc := 493) C hX hbl (hv 5 (by decide) (by decide)) dL_law_493 ?_
  refine V_aload_n (pc := 494) C dL_law_494 rfl 1 rfl ?_
  refine V_iload (pc := 495) C dL_law_495 5 rfl ?_
  refine V_bipush (pc := 497) C (v := 6) dL_law_497 rfl ?_
  refine V_iadd (pc := 499) C dL_law_499 ?_
  refine V_sld (pc := 500) C hX hbl (hv 6 (by decide) (by decide)) dL_law_500 ?_
  refine V_callV (pc := 501) C (ct_X8_terms hT hl h) g1137 g1138 g1139 g1140 g64 ⟨by decide, by decide, pl_X8_terms⟩ (enc_ne63 (by decide)) (ct_obj hT rfl (by decide)) rfl ⟨by decide, by decide⟩ (rest := []) rfl (le8 rfl) dL_law_501 (fun v2 S2 h => ?_) (fun k9 S9 hk h => absurd h.1 (by omega))
  obtain ⟨-, e1, h⟩ := h
  refine V_st (st' := []) rfl ?_
  refine V_aload_n (pc := 504) C dL_law_504 rfl 3 rfl ?_
  refine V_callV (pc := 505) C (ct_X8_thrown hT hl (Qa := fun k3 v3 S3 => k3 = 0 ∧ v3 = S2.1 342 0 ∧ S3 = S2) ⟨rfl, rfl, rfl⟩) g1109 g1110 g1111 g1112 g64 ⟨by decide, by decide, pl_X8_thrown⟩ (enc_ne63 (by decide)) (ct_obj hT rfl (by decide)) rfl ⟨by decide, by decide⟩ (rest := []) rfl (le8 rfl) dL_law_505 (fun v3 S3 h3 => ?_) (fun k9 S9 hk h3 => absurd h3.1 (by omega))
  obtain ⟨-, e3, e4⟩ := h3
  subst e4
  refine V_st (st' := [Value.int v3]) rfl ?_
  refine V_iload (pc := 508) C dL_law_508 0 rfl ?_
  refine V_icmp_eq (pc := 510) (tgt := 515) C dL_law_510 (by decide) ⟨fun z => z, fun z => z⟩ (fun _ => ?_) (fun z => absurd (e3.trans e1) z)
  refine V_goto (pc := 515) (tgt := 2369) C dL_law_515 (by decide) ?_
  refine V_sub [1, 2, 3, 4, 5] rfl ?_
  exact kk h
theorem case_key (hT : xT X = tb1) (hl : l.stackTraces = false) (C : Cn X k0 p l R s m meth c cL_law RL 7 15 584) {L : Nat} {xs : Nat → Int32} (hX : va_X (xB X) L xs s (xH X)) (hbl : xB X < (xH X).size) {x4 : Int32} (hv : ∀ j : Int32, 1 ≤ j → j ≤ 6 → vp_in (x4 + j) L) {K : Sg → Prop} (kk : ∀ {T : Sg}, K T → V X p l e R s m args below meth c 7 Q S0 ad0 T 2369 [(0, Value.ref 63), (1, Value.ref (enc 0 0)), (2, Value.ref (enc 12 0)), (3, Value.ref (enc 14 0)), (4, Value.int x4)] []) {S : Sg} (h : w_L_key (xs (nt (x4 + 1))) (xs (nt (x4 + 2))) (xs (nt (x4 + 3))) (xs (nt (x4 + 4))) S (LQ (fun S Q => w_X8_key (xs (nt (x4 + 1))) (xs (nt (x4 + 2))) (xs (nt (x4 + 3))) (xs (nt (x4 + 4))) S Q) K)) : V X p l e R s m args below meth c 7 Q S0 ad0 S 518 [(0, Value.ref 63), (1, Value.ref (enc 0 0)), (2, Value.ref (enc 12 0)), (3, Value.ref (enc 14 0)), (4, Value.int x4)] [] := by
  refine V_aload_n (pc := 518) C dL_law_518 rfl 1 rfl ?_
  refine V_aload_n (pc := 519) C dL_law_519 rfl 0 rfl ?_
  refine V_iload (pc := 520) C dL_law_520 4 rfl ?_
  refine V_iconst (pc := 522) C (v := 1) dL_law_522 rfl ?_
  refine V_iadd (pc := 523) C dL_law_523 ?_
  refine V_sld (pc := 524) C hX hbl (hv 1 (by decide) (by decide)) dL_law_524 ?_
  refine V_aload_n (pc := 525) C dL_law_525 rfl 0 rfl ?_
  refine V_iload (pc := 526) C dL_law_526 4 rfl ?_
  refine V_iconst (pc := 528) C (v := 2) dL_law_528 rfl ?_
  refine V_iadd (pc := 529) C dL_law_529 ?_
  refine V_sld (pc := 530) C hX hbl (hv 2 (by decide) (by decide)) dL_law_530 ?_
  refine V_aload_n (pc := 531) C dL_law_531 rfl 0 rfl ?_
  refine V_iload (pc := 532) C dL_law_532 4 rfl ?_
  refine V_iconst (pc := 534) C (v := 3) dL_law_534 rfl ?_
  refine V_iadd (pc := 535) C dL_law_535 ?_
  refine V_sld (pc := 536) C hX hbl (hv 3 (by decide) (by decide)) dL_law_536 ?_
  refine V_aload_n (pc := 537) C dL_law_537 rfl 0 rfl ?_
  refine V_iload (pc := 538) C dL_law_538 4 rfl ?_
  refine V_iconst (pc := 540) C (v := 4) dL_law_540 rfl ?_
  refine V_iadd (pc := 541) C dL_law_541 ?_
  refine V_sld (pc := 542) C hX hbl (hv 4 (by decide) (by decide)) dL_law_542 ?_
  refine V_aload_n (pc := 543) C dL_law_543 rfl 3 rfl ?_
  refine V_callH (pc := 544) C (ct_L_key hT hl h) g439 g440 g441 g59 ⟨by decide, by decide, pl_L_key⟩ ⟨by decide, by decide⟩ (rest := []) rfl (le8 rfl) dL_law_544 (fun v S1 h => ?_) (fun k9 S9 hk h => absurd h.1 (by omega))
  replace h := h.2
  refine V_st (st' := [Value.int v]) rfl ?_
  refine V_istore (pc := 547) C dL_law_547 (by decide) rfl ?_
  refine V_aload_n (pc := 549) C dL_law_549 rfl 3 rfl ?_
  refine V_aload_n (pc := 550) C dL_law_550 rfl 1 rfl ?_
  refine V_iload (pc := 551) C dL_law_551 5 rfl ?_
  refine V_iconst (pc := 553) C (v := 1) dL_law_553 rfl ?_
  refine V_iadd (pc := 554) C dL_law_554 ?_
  refine V_sld (pc := 555) C hX hbl (hv 1 (by decide) (by decide)) dL_law_555 ?_
  refine V_aload_n (pc := 556) C dL_law_556 rfl 1 rfl ?_
  refine V_iload (pc := 557) C dL_law_557 5 rfl ?_
  refine V_iconst (pc := 559) C (v := 2) dL_law_559 rfl ?_
  refine V_iadd (pc := 560) C dL_law_560 ?_
  refine V_sld (pc := 561) C hX hbl (hv 2 (by decide) (by decide)) dL_law_561 ?_
  refine V_aload_n (pc := 562) C dL_law_562 rfl 1 rfl ?_
  refine V_iload (pc := 563) C dL_law_563 5 rfl ?_
  refine V_iconst (pc := 565) C (v := 3) dL_law_565 rfl ?_
  refine V_iadd (pc := 566) C dL_law_566 ?_
  refine V_sld (pc := 567) C hX hbl (hv 3 (by decide) (by decide)) dL_law_567 ?_
  refine V_aload_n (pc := 568) C dL_law_568 rfl 1 rfl ?_
  refine V_iload (pc := 569) C dL_law_569 5 rfl ?_
  refine V_iconst (pc := 571) C (v := 4) dL_law_571 rfl ?_
  refine V_iadd (pc := 572) C dL_law_572 ?_
  refine V_sld (pc := 573) C hX hbl (hv 4 (by decide) (by decide)) dL_law_573 ?_
  refine V_callV (pc := 574) C (ct_X8_key hT hl h) g1145 g1146 g1147 g1148 g64 ⟨by decide, by decide, pl_X8_key⟩ (enc_ne63 (by decide)) (ct_obj hT rfl (by decide)) rfl ⟨by decide, by decide⟩ (rest := []) rfl (le8 rfl) dL_law_574 (fun v2 S2 h => ?_) (fun k9 S9 hk h => absurd h.1 (by omega))
  obtain ⟨-, e1, e2, h⟩ := h
  refine V_st (st' := [Value.int v2]) rfl ?_
  refine V_istore (pc := 577) C dL_law_577 (by decide) rfl ?_
  refine V_aload_n (pc := 579) C dL_law_579 rfl 4 rfl ?_
  refine V_callV (pc := 580) C (ct_X8_thrown hT hl (Qa := fun k3 v3 S3 => k3 = 0 ∧ v3 = S2.1 342 0 ∧ S3 = S2) ⟨rfl, rfl, rfl⟩) g1109 g1110 g1111 g1112 g64 ⟨by decide, by decide, pl_X8_thrown⟩ (enc_ne63 (by decide)) (ct_obj hT rfl (by decide)) rfl ⟨by decide, by decide⟩ (rest := []) rfl (le8 rfl) dL_law_580 (fun v3 S3 h3 => ?_) (fun k9 S9 hk h3 => absurd h3.1 (by omega))
  obtain ⟨-, e3, e4⟩ := h3
  subst e4
  refine V_st (st' := [Value.int v3]) rfl ?_
  refine V_iload (pc := 583) C dL_law_583 1 rfl ?_
  refine V_icmp_eq (pc := 585) (tgt := 590) C dL_law_585 (by decide) ⟨fun z => z, fun z => z⟩ (fun _ => ?_) (fun z => absurd (e3.trans e1) z)
  refine V_iload (pc := 590) C dL_law_590 1 rfl ?_
  refine V_if_ne (pc := 592) (tgt := 607) C dL_law_592 (by decide) ⟨fun z => z, fun z => z⟩ (fun _ => ?_) (fun v0 => ?_)
  · skip
    refine V_goto (pc := 607) (tgt := 2369) C dL_law_607 (by decide) ?_
    refine V_sub [2, 3, 4, 5, 6] rfl ?_
    exact kk h
  refine V_aload_n (pc := 595) C dL_law_595 rfl 5 rfl ?_
  refine V_iconst (pc := 596) C (v := 0) dL_law_596 rfl ?_
  refine V_laldO (pc := 597) C hT dL_law_597 ?_
  refine V_iload (pc := 598) C dL_law_598 0 rfl ?_
  refine V_i2l (pc := 600) C dL_law_600 ?_
  refine V_lcmp (pc := 601) C dL_law_601 ?_
  refine V_if_eq (pc := 602) (tgt := 607) C dL_law_602 (by decide) ⟨fun z => z, fun z => z⟩ (fun _ => ?_) (fun z => absurd (by rw [e2 v0]; exact cmp_self) z)
  refine V_goto (pc := 607) (tgt := 2369) C dL_law_607 (by decide) ?_
  refine V_sub [2, 3, 4, 5, 6] rfl ?_
  exact kk h
theorem case_spread (hT : xT X = tb1) (hl : l.stackTraces = false) (C : Cn X k0 p l R s m meth c cL_law RL 7 15 584) {L : Nat} {xs : Nat → Int32} (hX : va_X (xB X) L xs s (xH X)) (hbl : xB X < (xH X).size) {x4 : Int32} (hv : ∀ j : Int32, 1 ≤ j → j ≤ 6 → vp_in (x4 + j) L) {K : Sg → Prop} (kk : ∀ {T : Sg}, K T → V X p l e R s m args below meth c 7 Q S0 ad0 T 2369 [(0, Value.ref 63), (1, Value.ref (enc 0 0)), (2, Value.ref (enc 12 0)), (3, Value.ref (enc 14 0)), (4, Value.int x4)] []) {S : Sg} (h : w_L_spread (xs (nt (x4 + 1))) S (LQ (fun S Q => w_X8_spread (xs (nt (x4 + 1))) S Q) K)) : V X p l e R s m args below meth c 7 Q S0 ad0 S 610 [(0, Value.ref 63), (1, Value.ref (enc 0 0)), (2, Value.ref (enc 12 0)), (3, Value.ref (enc 14 0)), (4, Value.int x4)] [] := by
  refine V_aload_n (pc := 610) C dL_law_610 rfl 1 rfl ?_
  refine V_aload_n (pc := 611) C dL_law_611 rfl 0 rfl ?_
  refine V_iload (pc := 612) C dL_law_612 4 rfl ?_
  refine V_iconst (pc := 614) C (v := 1) dL_law_614 rfl ?_
  refine V_iadd (pc := 615) C dL_law_615 ?_
  refine V_sld (pc := 616) C hX hbl (hv 1 (by decide) (by decide)) dL_law_616 ?_
  refine V_aload_n (pc := 617) C dL_law_617 rfl 3 rfl ?_
  refine V_callH (pc := 618) C (ct_L_spread hT hl h) g471 g472 g473 g59 ⟨by decide, by decide, pl_L_spread⟩ ⟨by decide, by decide⟩ (rest := []) rfl (le8 rfl) dL_law_618 (fun v S1 h => ?_) (fun k9 S9 hk h => absurd h.1 (by omega))
  replace h := h.2
  refine V_st (st' := [Value.int v]) rfl ?_
  refine V_istore (pc := 621) C dL_law_621 (by decide) rfl ?_
  refine V_aload_n (pc := 623) C dL_law_623 rfl 3 rfl ?_
  refine V_aload_n (pc := 624) C dL_law_624 rfl 1 rfl ?_
  refine V_iload (pc := 625) C dL_law_625 5 rfl ?_
  refine V_iconst (pc := 627) C (v := 1) dL_law_627 rfl ?_
  refine V_iadd (pc := 628) C dL_law_628 ?_
  refine V_sld (pc := 629) C hX hbl (hv 1 (by decide) (by decide)) dL_law_629 ?_
  refine V_callV (pc := 630) C (ct_X8_spread hT hl h) g1150 g1151 g1152 g1153 g64 ⟨by decide, by decide, pl_X8_spread⟩ (enc_ne63 (by decide)) (ct_obj hT rfl (by decide)) rfl ⟨by decide, by decide⟩ (rest := []) rfl (le8 rfl) dL_law_630 (fun v2 S2 h => ?_) (fun k9 S9 hk h => absurd h.1 (by omega))
  obtain ⟨-, e1, e2, h⟩ := h
  refine V_st (st' := [Value.int v2]) rfl ?_
  refine V_istore (pc := 633) C dL_law_633 (by decide) rfl ?_
  refine V_aload_n (pc := 635) C dL_law_635 rfl 4 rfl ?_
  refine V_callV (pc := 636) C (ct_X8_thrown hT hl (Qa := fun k3 v3 S3 => k3 = 0 ∧ v3 = S2.1 342 0 ∧ S3 = S2) ⟨rfl, rfl, rfl⟩) g1109 g1110 g1111 g1112 g64 ⟨by decide, by decide, pl_X8_thrown⟩ (enc_ne63 (by decide)) (ct_obj hT rfl (by decide)) rfl ⟨by decide, by decide⟩ (rest := []) rfl (le8 rfl) dL_law_636 (fun v3 S3 h3 => ?_) (fun k9 S9 hk h3 => absurd h3.1 (by omega))
  obtain ⟨-, e3, e4⟩ := h3
  subst e4
  refine V_st (st' := [Value.int v3]) rfl ?_
  refine V_iload (pc := 639) C dL_law_639 1 rfl ?_
  refine V_icmp_eq (pc := 641) (tgt := 646) C dL_law_641 (by decide) ⟨fun z => z, fun z => z⟩ (fun _ => ?_) (fun z => absurd (e3.trans e1) z)
  refine V_iload (pc := 646) C dL_law_646 1 rfl ?_
  refine V_if_ne (pc := 648) (tgt := 663) C dL_law_648 (by decide) ⟨fun z => z, fun z => z⟩ (fun _ => ?_) (fun v0 => ?_)
  · skip
    refine V_goto (pc := 663) (tgt := 2369) C dL_law_663 (by decide) ?_
    refine V_sub [2, 3, 4, 5, 6] rfl ?_
    exact kk h
  refine V_aload_n (pc := 651) C dL_law_651 rfl 5 rfl ?_
  refine V_iconst (pc := 652) C (v := 0) dL_law_652 rfl ?_
  refine V_laldO (pc := 653) C hT dL_law_653 ?_
  refine V_iload (pc := 654) C dL_law_654 0 rfl ?_
  refine V_i2l (pc := 656) C dL_law_656 ?_
  refine V_lcmp (pc := 657) C dL_law_657 ?_
  refine V_if_eq (pc := 658) (tgt := 663) C dL_law_658 (by decide) ⟨fun z => z, fun z => z⟩ (fun _ => ?_) (fun z => absurd (by rw [e2 v0]; exact cmp_self) z)
  refine V_goto (pc := 663) (tgt := 2369) C dL_law_663 (by decide) ?_
  refine V_sub [2, 3, 4, 5, 6] rfl ?_
  exact kk h
theorem case_show (hT : xT X = tb1) (hl : l.stackTraces = false) (C : Cn X k0 p l R s m meth c cL_law RL 7 15 584) {L : Nat} {xs : Nat → Int32} (hX : va_X (xB X) L xs s (xH X)) (hbl : xB X < (xH X).size) {x4 : Int32} (hv : ∀ j : Int32, 1 ≤ j → j ≤ 6 → vp_in (x4 + j) L) {K : Sg → Prop} (kk : ∀ {T : Sg}, K T → V X p l e R s m args below meth c 7 Q S0 ad0 T 2369 [(0, Value.ref 63), (1, Value.ref (enc 0 0)), (2, Value.ref (enc 12 0)), (3, Value.ref (enc 14 0)), (4, Value.int x4)] []) {S : Sg} (h : w_L_show (xs (nt (x4 + 1))) (xs (nt (x4 + 2))) (xs (nt (x4 + 3))) S (LQ (fun S Q => w_X8_show (xs (nt (x4 + 1))) (xs (nt (x4 + 2))) (xs (nt (x4 + 3))) S Q) K)) : V X p l e R s m args below meth c 7 Q S0 ad0 S 666 [(0, Value.ref 63), (1, Value.ref (enc 0 0)), (2, Value.ref (enc 12 0)), (3, Value.ref (enc 14 0)), (4, Value.int x4)] [] := by
  refine V_aload_n (pc := 666) C dL_law_666 rfl 1 rfl ?_
  refine V_aload_n (pc := 667) C dL_law_667 rfl 0 rfl ?_
  refine V_iload (pc := 668) C dL_law_668 4 rfl ?_
  refine V_iconst (pc := 670) C (v := 1) dL_law_670 rfl ?_
  refine V_iadd (pc := 671) C dL_law_671 ?_
  refine V_sld (pc := 672) C hX hbl (hv 1 (by decide) (by decide)) dL_law_672 ?_
  refine V_aload_n (pc := 673) C dL_law_673 rfl 0 rfl ?_
  refine V_iload (pc := 674) C dL_law_674 4 rfl ?_
  refine V_iconst (pc := 676) C (v := 2) dL_law_676 rfl ?_
  refine V_iadd (pc := 677) C dL_law_677 ?_
  refine V_sld (pc := 678) C hX hbl (hv 2 (by decide) (by decide)) dL_law_678 ?_
  refine V_aload_n (pc := 679) C dL_law_679 rfl 0 rfl ?_
  refine V_iload (pc := 680) C dL_law_680 4 rfl ?_
  refine V_iconst (pc := 682) C (v := 3) dL_law_682 rfl ?_
  refine V_iadd (pc := 683) C dL_law_683 ?_
  refine V_sld (pc := 684) C hX hbl (hv 3 (by decide) (by decide)) dL_law_684 ?_
  refine V_aload_n (pc := 685) C dL_law_685 rfl 3 rfl ?_
  refine V_callH (pc := 686) C (ct_L_show hT hl h) g478 g479 g480 g59 ⟨by decide, by decide, pl_L_show⟩ ⟨by decide, by decide⟩ (rest := []) rfl (le8 rfl) dL_law_686 (fun v S1 h => ?_) (fun k9 S9 hk h => absurd h.1 (by omega))
  replace h := h.2
  refine V_st (st' := [Value.int v]) rfl ?_
  refine V_istore (pc := 689) C dL_law_689 (by decide) rfl ?_
  refine V_aload_n (pc := 691) C dL_law_691 rfl 3 rfl ?_
  refine V_aload_n (pc := 692) C dL_law_692 rfl 1 rfl ?_
  refine V_iload (pc := 693) C dL_law_693 5 rfl ?_
  refine V_iconst (pc := 695) C (v := 1) dL_law_695 rfl ?_
  refine V_iadd (pc := 696) C dL_law_696 ?_
  refine V_sld (pc := 697) C hX hbl (hv 1 (by decide) (by decide)) dL_law_697 ?_
  refine V_aload_n (pc := 698) C dL_law_698 rfl 1 rfl ?_
  refine V_iload (pc := 699) C dL_law_699 5 rfl ?_
  refine V_iconst (pc := 701) C (v := 2) dL_law_701 rfl ?_
  refine V_iadd (pc := 702) C dL_law_702 ?_
  refine V_sld (pc := 703) C hX hbl (hv 2 (by decide) (by decide)) dL_law_703 ?_
  refine V_aload_n (pc := 704) C dL_law_704 rfl 1 rfl ?_
  refine V_iload (pc := 705) C dL_law_705 5 rfl ?_
  refine V_iconst (pc := 707) C (v := 3) dL_law_707 rfl ?_
  refine V_iadd (pc := 708) C dL_law_708 ?_
  refine V_sld (pc := 709) C hX hbl (hv 3 (by decide) (by decide)) dL_law_709 ?_
  refine V_callV (pc := 710) C (ct_X8_show hT hl h) g1154 g1155 g1156 g1157 g64 ⟨by decide, by decide, pl_X8_show⟩ (enc_ne63 (by decide)) (ct_obj hT rfl (by decide)) rfl ⟨by decide, by decide⟩ (rest := []) rfl (le8 rfl) dL_law_710 (fun v2 S2 h => ?_) (fun k9 S9 hk h => absurd h.1 (by omega))
  obtain ⟨-, e1, e2, h⟩ := h
  refine V_st (st' := [Value.int v2]) rfl ?_
  refine V_istore (pc := 713) C dL_law_713 (by decide) rfl ?_
  refine V_aload_n (pc := 715) C dL_law_715 rfl 4 rfl ?_
  refine V_callV (pc := 716) C (ct_X8_thrown hT hl (Qa := fun k3 v3 S3 => k3 = 0 ∧ v3 = S2.1 342 0 ∧ S3 = S2) ⟨rfl, rfl, rfl⟩) g1109 g1110 g1111 g1112 g64 ⟨by decide, by decide, pl_X8_thrown⟩ (enc_ne63 (by decide)) (ct_obj hT rfl (by decide)) rfl ⟨by decide, by decide⟩ (rest := []) rfl (le8 rfl) dL_law_716 (fun v3 S3 h3 => ?_) (fun k9 S9 hk h3 => absurd h3.1 (by omega))
  obtain ⟨-, e3, e4⟩ := h3
  subst e4
  refine V_st (st' := [Value.int v3]) rfl ?_
  refine V_iload (pc := 719) C dL_law_719 1 rfl ?_
  refine V_icmp_eq (pc := 721) (tgt := 726) C dL_law_721 (by decide) ⟨fun z => z, fun z => z⟩ (fun _ => ?_) (fun z => absurd (e3.trans e1) z)
  refine V_iload (pc := 726) C dL_law_726 1 rfl ?_
  refine V_if_ne (pc := 728) (tgt := 743) C dL_law_728 (by decide) ⟨fun z => z, fun z => z⟩ (fun _ => ?_) (fun v0 => ?_)
  · skip
    refine V_goto (pc := 743) (tgt := 2369) C dL_law_743 (by decide) ?_
    refine V_sub [2, 3, 4, 5, 6] rfl ?_
    exact kk h
  refine V_aload_n (pc := 731) C dL_law_731 rfl 5 rfl ?_
  refine V_iconst (pc := 732) C (v := 0) dL_law_732 rfl ?_
  refine V_laldO (pc := 733) C hT dL_law_733 ?_
  refine V_iload (pc := 734) C dL_law_734 0 rfl ?_
  refine V_i2l (pc := 736) C dL_law_736 ?_
  refine V_lcmp (pc := 737) C dL_law_737 ?_
  refine V_if_eq (pc := 738) (tgt := 743) C dL_law_738 (by decide) ⟨fun z => z, fun z => z⟩ (fun _ => ?_) (fun z => absurd (by rw [e2 v0]; exact cmp_self) z)
  refine V_goto (pc := 743) (tgt := 2369) C dL_law_743 (by decide) ?_
  refine V_sub [2, 3, 4, 5, 6] rfl ?_
  exact kk h
theorem case_cancel (hT : xT X = tb1) (hl : l.stackTraces = false) (C : Cn X k0 p l R s m meth c cL_law RL 7 15 584) {L : Nat} {xs : Nat → Int32} (hX : va_X (xB X) L xs s (xH X)) (hbl : xB X < (xH X).size) {x4 : Int32} (hv : ∀ j : Int32, 1 ≤ j → j ≤ 6 → vp_in (x4 + j) L) {K : Sg → Prop} (kk : ∀ {T : Sg}, K T → V X p l e R s m args below meth c 7 Q S0 ad0 T 2369 [(0, Value.ref 63), (1, Value.ref (enc 0 0)), (2, Value.ref (enc 12 0)), (3, Value.ref (enc 14 0)), (4, Value.int x4)] []) {S : Sg} (h : w_L_cancel (xs (nt (x4 + 1))) S (LQ (fun S Q => w_X8_cancel (xs (nt (x4 + 1))) S Q) K)) : V X p l e R s m args below meth c 7 Q S0 ad0 S 746 [(0, Value.ref 63), (1, Value.ref (enc 0 0)), (2, Value.ref (enc 12 0)), (3, Value.ref (enc 14 0)), (4, Value.int x4)] [] := by
  refine V_aload_n (pc := 746) C dL_law_746 rfl 1 rfl ?_
  refine V_aload_n (pc := 747) C dL_law_747 rfl 0 rfl ?_
  refine V_iload (pc := 748) C dL_law_748 4 rfl ?_
  refine V_iconst (pc := 750) C (v := 1) dL_law_750 rfl ?_
  refine V_iadd (pc := 751) C dL_law_751 ?_
  refine V_sld (pc := 752) C hX hbl (hv 1 (by decide) (by decide)) dL_law_752 ?_
  refine V_aload_n (pc := 753) C dL_law_753 rfl 3 rfl ?_
  refine V_callH (pc := 754) C (ct_L_cancel hT hl h) g579 g580 g581 g59 ⟨by decide, by decide, pl_L_cancel⟩ ⟨by decide, by decide⟩ (rest := []) rfl (le8 rfl) dL_law_754 (fun v S1 h => ?_) (fun k9 S9 hk h => absurd h.1 (by omega))
  replace h := h.2
  refine V_st (st' := [Value.int v]) rfl ?_
  refine V_istore (pc := 757) C dL_law_757 (by decide) rfl ?_
  refine V_aload_n (pc := 759) C dL_law_759 rfl 3 rfl ?_
  refine V_aload_n (pc := 760) C dL_law_760 rfl 1 rfl ?_
  refine V_iload (pc := 761) C dL_law_761 5 rfl ?_
  refine V_iconst (pc := 763) C (v := 1) dL_law_763 rfl ?_
  refine V_iadd (pc := 764) C dL_law_764 ?_
  refine V_sld (pc := 765) C hX hbl (hv 1 (by decide) (by decide)) dL_law_765 ?_
  refine V_callV (pc := 766) C (ct_X8_cancel hT hl h) g1170 g1171 g1172 g1173 g64 ⟨by decide, by decide, pl_X8_cancel⟩ (enc_ne63 (by decide)) (ct_obj hT rfl (by decide)) rfl ⟨by decide, by decide⟩ (rest := []) rfl (le8 rfl) dL_law_766 (fun v2 S2 h => ?_) (fun k9 S9 hk h => absurd h.1 (by omega))
  obtain ⟨-, e1, e2, h⟩ := h
  refine V_st (st' := [Value.int v2]) rfl ?_
  refine V_istore (pc := 769) C dL_law_769 (by decide) rfl ?_
  refine V_aload_n (pc := 771) C dL_law_771 rfl 4 rfl ?_
  refine V_callV (pc := 772) C (ct_X8_thrown hT hl (Qa := fun k3 v3 S3 => k3 = 0 ∧ v3 = S2.1 342 0 ∧ S3 = S2) ⟨rfl, rfl, rfl⟩) g1109 g1110 g1111 g1112 g64 ⟨by decide, by decide, pl_X8_thrown⟩ (enc_ne63 (by decide)) (ct_obj hT rfl (by decide)) rfl ⟨by decide, by decide⟩ (rest := []) rfl (le8 rfl) dL_law_772 (fun v3 S3 h3 => ?_) (fun k9 S9 hk h3 => absurd h3.1 (by omega))
  obtain ⟨-, e3, e4⟩ := h3
  subst e4
  refine V_st (st' := [Value.int v3]) rfl ?_
  refine V_iload (pc := 775) C dL_law_775 1 rfl ?_
  refine V_icmp_eq (pc := 777) (tgt := 782) C dL_law_777 (by decide) ⟨fun z => z, fun z => z⟩ (fun _ => ?_) (fun z => absurd (e3.trans e1) z)
  refine V_iload (pc := 782) C dL_law_782 1 rfl ?_
  refine V_if_ne (pc := 784) (tgt := 799) C dL_law_784 (by decide) ⟨fun z => z, fun z => z⟩ (fun _ => ?_) (fun v0 => ?_)
  · skip
    refine V_goto (pc := 799) (tgt := 2369) C dL_law_799 (by decide) ?_
    refine V_sub [2, 3, 4, 5, 6] rfl ?_
    exact kk h
  refine V_aload_n (pc := 787) C dL_law_787 rfl 5 rfl ?_
  refine V_iconst (pc := 788) C (v := 0) dL_law_788 rfl ?_
  refine V_laldO (pc := 789) C hT dL_law_789 ?_
  refine V_iload (pc := 790) C dL_law_790 0 rfl ?_
  refine V_i2l (pc := 792) C dL_law_792 ?_
  refine V_lcmp (pc := 793) C dL_law_793 ?_
  refine V_if_eq (pc := 794) (tgt := 799) C dL_law_794 (by decide) ⟨fun z => z, fun z => z⟩ (fun _ => ?_) (fun z => absurd (by rw [e2 v0]; exact cmp_self) z)
  refine V_goto (pc := 799) (tgt := 2369) C dL_law_799 (by decide) ?_
  refine V_sub [2, 3, 4, 5, 6] rfl ?_
  exact kk h
theorem case_breaks (hT : xT X = tb1) (hl : l.stackTraces = false) (C : Cn X k0 p l R s m meth c cL_law RL 7 15 584) {L : Nat} {xs : Nat → Int32} (hX : va_X (xB X) L xs s (xH X)) (hbl : xB X < (xH X).size) {x4 : Int32} (hv : ∀ j : Int32, 1 ≤ j → j ≤ 6 → vp_in (x4 + j) L) {K : Sg → Prop} (kk : ∀ {T : Sg}, K T → V X p l e R s m args below meth c 7 Q S0 ad0 T 2369 [(0, Value.ref 63), (1, Value.ref (enc 0 0)), (2, Value.ref (enc 12 0)), (3, Value.ref (enc 14 0)), (4, Value.int x4)] []) {S : Sg} (h : w_L_breaks (xs (nt (x4 + 1))) S (LQ (fun S Q => w_X8_breaks (xs (nt (x4 + 1))) S Q) K)) : V X p l e R s m args below meth c 7 Q S0 ad0 S 802 [(0, Value.ref 63), (1, Value.ref (enc 0 0)), (2, Value.ref (enc 12 0)), (3, Value.ref (enc 14 0)), (4, Value.int x4)] [] := by
  refine V_aload_n (pc := 802) C dL_law_802 rfl 1 rfl ?_
  refine V_aload_n (pc := 803) C dL_law_803 rfl 0 rfl ?_
  refine V_iload (pc := 804) C dL_law_804 4 rfl ?_
  refine V_iconst (pc := 806) C (v := 1) dL_law_806 rfl ?_
  refine V_iadd (pc := 807) C dL_law_807 ?_
  refine V_sld (pc := 808) C hX hbl (hv 1 (by decide) (by decide)) dL_law_808 ?_
  refine V_aload_n (pc := 809) C dL_law_809 rfl 3 rfl ?_
  refine V_callH (pc := 810) C (ct_L_breaks hT hl h) g609 g610 g611 g59 ⟨by decide, by decide, pl_L_breaks⟩ ⟨by decide, by decide⟩ (rest := []) rfl (le8 rfl) dL_law_810 (fun v S1 h => ?_) (fun k9 S9 hk h => absurd h.1 (by omega))
  replace h := h.2
  refine V_st (st' := [Value.int v]) rfl ?_
  refine V_istore (pc := 813) C dL_law_813 (by decide) rfl ?_
  refine V_aload_n (pc := 815) C dL_law_815 rfl 3 rfl ?_
  refine V_aload_n (pc := 816) C dL_law_816 rfl 1 rfl ?_
  refine V_iload (pc := 817) C dL_law_817 5 rfl ?_
  refine V_iconst (pc := 819) C (v := 1) dL_law_819 rfl ?_
  refine V_iadd (pc := 820) C dL_law_820 ?_
  refine V_sld (pc := 821) C hX hbl (hv 1 (by decide) (by decide)) dL_law_821 ?_
  refine V_callV (pc := 822) C (ct_X8_breaks hT hl h) g1178 g1179 g1180 g1181 g64 ⟨by decide, by decide, pl_X8_breaks⟩ (enc_ne63 (by decide)) (ct_obj hT rfl (by decide)) rfl ⟨by decide, by decide⟩ (rest := []) rfl (le8 rfl) dL_law_822 (fun v2 S2 h => ?_) (fun k9 S9 hk h => absurd h.1 (by omega))
  obtain ⟨-, e1, e2, h⟩ := h
  refine V_st (st' := [Value.int v2]) rfl ?_
  refine V_istore (pc := 825) C dL_law_825 (by decide) rfl ?_
  refine V_aload_n (pc := 827) C dL_law_827 rfl 4 rfl ?_
  refine V_callV (pc := 828) C (ct_X8_thrown hT hl (Qa := fun k3 v3 S3 => k3 = 0 ∧ v3 = S2.1 342 0 ∧ S3 = S2) ⟨rfl, rfl, rfl⟩) g1109 g1110 g1111 g1112 g64 ⟨by decide, by decide, pl_X8_thrown⟩ (enc_ne63 (by decide)) (ct_obj hT rfl (by decide)) rfl ⟨by decide, by decide⟩ (rest := []) rfl (le8 rfl) dL_law_828 (fun v3 S3 h3 => ?_) (fun k9 S9 hk h3 => absurd h3.1 (by omega))
  obtain ⟨-, e3, e4⟩ := h3
  subst e4
  refine V_st (st' := [Value.int v3]) rfl ?_
  refine V_iload (pc := 831) C dL_law_831 1 rfl ?_
  refine V_icmp_eq (pc := 833) (tgt := 838) C dL_law_833 (by decide) ⟨fun z => z, fun z => z⟩ (fun _ => ?_) (fun z => absurd (e3.trans e1) z)
  refine V_iload (pc := 838) C dL_law_838 1 rfl ?_
  refine V_if_ne (pc := 840) (tgt := 855) C dL_law_840 (by decide) ⟨fun z => z, fun z => z⟩ (fun _ => ?_) (fun v0 => ?_)
  · skip
    refine V_goto (pc := 855) (tgt := 2369) C dL_law_855 (by decide) ?_
    refine V_sub [2, 3, 4, 5, 6] rfl ?_
    exact kk h
  refine V_aload_n (pc := 843) C dL_law_843 rfl 5 rfl ?_
  refine V_iconst (pc := 844) C (v := 0) dL_law_844 rfl ?_
  refine V_laldO (pc := 845) C hT dL_law_845 ?_
  refine V_iload (pc := 846) C dL_law_846 0 rfl ?_
  refine V_i2l (pc := 848) C dL_law_848 ?_
  refine V_lcmp (pc := 849) C dL_law_849 ?_
  refine V_if_eq (pc := 850) (tgt := 855) C dL_law_850 (by decide) ⟨fun z => z, fun z => z⟩ (fun _ => ?_) (fun z => absurd (by rw [e2 v0]; exact cmp_self) z)
  refine V_goto (pc := 855) (tgt := 2369) C dL_law_855 (by decide) ?_
  refine V_sub [2, 3, 4, 5, 6] rfl ?_
  exact kk h
theorem case_pass (hT : xT X = tb1) (hl : l.stackTraces = false) (C : Cn X k0 p l R s m meth c cL_law RL 7 15 584) {L : Nat} {xs : Nat → Int32} (hX : va_X (xB X) L xs s (xH X)) (hbl : xB X < (xH X).size) {x4 : Int32} (hv : ∀ j : Int32, 1 ≤ j → j ≤ 6 → vp_in (x4 + j) L) {K : Sg → Prop} (kk : ∀ {T : Sg}, K T → V X p l e R s m args below meth c 7 Q S0 ad0 T 2369 [(0, Value.ref 63), (1, Value.ref (enc 0 0)), (2, Value.ref (enc 12 0)), (3, Value.ref (enc 14 0)), (4, Value.int x4)] []) {S : Sg} (h : w_L_pass (xs (nt (x4 + 1))) S (LQ (fun S Q => w_X8_pass (xs (nt (x4 + 1))) S Q) K)) : V X p l e R s m args below meth c 7 Q S0 ad0 S 858 [(0, Value.ref 63), (1, Value.ref (enc 0 0)), (2, Value.ref (enc 12 0)), (3, Value.ref (enc 14 0)), (4, Value.int x4)] [] := by
  refine V_aload_n (pc := 858) C dL_law_858 rfl 1 rfl ?_
  refine V_aload_n (pc := 859) C dL_law_859 rfl 0 rfl ?_
  refine V_iload (pc := 860) C dL_law_860 4 rfl ?_
  refine V_iconst (pc := 862) C (v := 1) dL_law_862 rfl ?_
  refine V_iadd (pc := 863) C dL_law_863 ?_
  refine V_sld (pc := 864) C hX hbl (hv 1 (by decide) (by decide)) dL_law_864 ?_
  refine V_aload_n (pc := 865) C dL_law_865 rfl 3 rfl ?_
  refine V_callH (pc := 866) C (ct_L_pass hT hl h) g617 g618 g619 g59 ⟨by decide, by decide, pl_L_pass⟩ ⟨by decide, by decide⟩ (rest := []) rfl (le8 rfl) dL_law_866 (fun v S1 h => ?_) (fun k9 S9 hk h => absurd h.1 (by omega))
  replace h := h.2
  refine V_st (st' := [Value.int v]) rfl ?_
  refine V_istore (pc := 869) C dL_law_869 (by decide) rfl ?_
  refine V_aload_n (pc := 871) C dL_law_871 rfl 3 rfl ?_
  refine V_aload_n (pc := 872) C dL_law_872 rfl 1 rfl ?_
  refine V_iload (pc := 873) C dL_law_873 5 rfl ?_
  refine V_iconst (pc := 875) C (v := 1) dL_law_875 rfl ?_
  refine V_iadd (pc := 876) C dL_law_876 ?_
  refine V_sld (pc := 877) C hX hbl (hv 1 (by decide) (by decide)) dL_law_877 ?_
  refine V_callV (pc := 878) C (ct_X8_pass hT hl h) g1182 g1183 g1184 g1185 g64 ⟨by decide, by decide, pl_X8_pass⟩ (enc_ne63 (by decide)) (ct_obj hT rfl (by decide)) rfl ⟨by decide, by decide⟩ (rest := []) rfl (le8 rfl) dL_law_878 (fun v2 S2 h => ?_) (fun k9 S9 hk h => absurd h.1 (by omega))
  obtain ⟨-, e1, e2, h⟩ := h
  refine V_st (st' := [Value.int v2]) rfl ?_
  refine V_istore (pc := 881) C dL_law_881 (by decide) rfl ?_
  refine V_aload_n (pc := 883) C dL_law_883 rfl 4 rfl ?_
  refine V_callV (pc := 884) C (ct_X8_thrown hT hl (Qa := fun k3 v3 S3 => k3 = 0 ∧ v3 = S2.1 342 0 ∧ S3 = S2) ⟨rfl, rfl, rfl⟩) g1109 g1110 g1111 g1112 g64 ⟨by decide, by decide, pl_X8_thrown⟩ (enc_ne63 (by decide)) (ct_obj hT rfl (by decide)) rfl ⟨by decide, by decide⟩ (rest := []) rfl (le8 rfl) dL_law_884 (fun v3 S3 h3 => ?_) (fun k9 S9 hk h3 => absurd h3.1 (by omega))
  obtain ⟨-, e3, e4⟩ := h3
  subst e4
  refine V_st (st' := [Value.int v3]) rfl ?_
  refine V_iload (pc := 887) C dL_law_887 1 rfl ?_
  refine V_icmp_eq (pc := 889) (tgt := 894) C dL_law_889 (by decide) ⟨fun z => z, fun z => z⟩ (fun _ => ?_) (fun z => absurd (e3.trans e1) z)
  refine V_iload (pc := 894) C dL_law_894 1 rfl ?_
  refine V_if_ne (pc := 896) (tgt := 911) C dL_law_896 (by decide) ⟨fun z => z, fun z => z⟩ (fun _ => ?_) (fun v0 => ?_)
  · skip
    refine V_goto (pc := 911) (tgt := 2369) C dL_law_911 (by decide) ?_
    refine V_sub [2, 3, 4, 5, 6] rfl ?_
    exact kk h
  refine V_aload_n (pc := 899) C dL_law_899 rfl 5 rfl ?_
  refine V_iconst (pc := 900) C (v := 0) dL_law_900 rfl ?_
  refine V_laldO (pc := 901) C hT dL_law_901 ?_
  refine V_iload (pc := 902) C dL_law_902 0 rfl ?_
  refine V_i2l (pc := 904) C dL_law_904 ?_
  refine V_lcmp (pc := 905) C dL_law_905 ?_
  refine V_if_eq (pc := 906) (tgt := 911) C dL_law_906 (by decide) ⟨fun z => z, fun z => z⟩ (fun _ => ?_) (fun z => absurd (by rw [e2 v0]; exact cmp_self) z)
  refine V_goto (pc := 911) (tgt := 2369) C dL_law_911 (by decide) ?_
  refine V_sub [2, 3, 4, 5, 6] rfl ?_
  exact kk h
theorem case_hold (hT : xT X = tb1) (hl : l.stackTraces = false) (C : Cn X k0 p l R s m meth c cL_law RL 7 15 584) {L : Nat} {xs : Nat → Int32} (hX : va_X (xB X) L xs s (xH X)) (hbl : xB X < (xH X).size) {x4 : Int32} (hv : ∀ j : Int32, 1 ≤ j → j ≤ 6 → vp_in (x4 + j) L) {K : Sg → Prop} (kk : ∀ {T : Sg}, K T → V X p l e R s m args below meth c 7 Q S0 ad0 T 2369 [(0, Value.ref 63), (1, Value.ref (enc 0 0)), (2, Value.ref (enc 12 0)), (3, Value.ref (enc 14 0)), (4, Value.int x4)] []) {S : Sg} (h : w_L_hold (xs (nt (x4 + 1))) (xs (nt (x4 + 2))) (xs (nt (x4 + 3))) (xs (nt (x4 + 4))) S (LQ (fun S Q => w_X8_hold (xs (nt (x4 + 1))) (xs (nt (x4 + 2))) (xs (nt (x4 + 3))) (xs (nt (x4 + 4))) S Q) K)) : V X p l e R s m args below meth c 7 Q S0 ad0 S 914 [(0, Value.ref 63), (1, Value.ref (enc 0 0)), (2, Value.ref (enc 12 0)), (3, Value.ref (enc 14 0)), (4, Value.int x4)] [] := by
  refine V_aload_n (pc := 914) C dL_law_914 rfl 1 rfl ?_
  refine V_aload_n (pc := 915) C dL_law_915 rfl 0 rfl ?_
  refine V_iload (pc := 916) C dL_law_916 4 rfl ?_
  refine V_iconst (pc := 918) C (v := 1) dL_law_918 rfl ?_
  refine V_iadd (pc := 919) C dL_law_919 ?_
  refine V_sld (pc := 920) C hX hbl (hv 1 (by decide) (by decide)) dL_law_920 ?_
  refine V_aload_n (pc := 921) C dL_law_921 rfl 0 rfl ?_
  refine V_iload (pc := 922) C dL_law_922 4 rfl ?_
  refine V_iconst (pc := 924) C (v := 2) dL_law_924 rfl ?_
  refine V_iadd (pc := 925) C dL_law_925 ?_
  refine V_sld (pc := 926) C hX hbl (hv 2 (by decide) (by decide)) dL_law_926 ?_
  refine V_aload_n (pc := 927) C dL_law_927 rfl 0 rfl ?_
  refine V_iload (pc := 928) C dL_law_928 4 rfl ?_
  refine V_iconst (pc := 930) C (v := 3) dL_law_930 rfl ?_
  refine V_iadd (pc := 931) C dL_law_931 ?_
  refine V_sld (pc := 932) C hX hbl (hv 3 (by decide) (by decide)) dL_law_932 ?_
  refine V_aload_n (pc := 933) C dL_law_933 rfl 0 rfl ?_
  refine V_iload (pc := 934) C dL_law_934 4 rfl ?_
  refine V_iconst (pc := 936) C (v := 4) dL_law_936 rfl ?_
  refine V_iadd (pc := 937) C dL_law_937 ?_
  refine V_sld (pc := 938) C hX hbl (hv 4 (by decide) (by decide)) dL_law_938 ?_
  refine V_aload_n (pc := 939) C dL_law_939 rfl 3 rfl ?_
  refine V_callH (pc := 940) C (ct_L_hold hT hl h) g691 g692 g693 g59 ⟨by decide, by decide, pl_L_hold⟩ ⟨by decide, by decide⟩ (rest := []) rfl (le8 rfl) dL_law_940 (fun v S1 h => ?_) (fun k9 S9 hk h => absurd h.1 (by omega))
  replace h := h.2
  refine V_st (st' := [Value.int v]) rfl ?_
  refine V_istore (pc := 943) C dL_law_943 (by decide) rfl ?_
  refine V_aload_n (pc := 945) C dL_law_945 rfl 3 rfl ?_
  refine V_aload_n (pc := 946) C dL_law_946 rfl 1 rfl ?_
  refine V_iload (pc := 947) C dL_law_947 5 rfl ?_
  refine V_iconst (pc := 949) C (v := 1) dL_law_949 rfl ?_
  refine V_iadd (pc := 950) C dL_law_950 ?_
  refine V_sld (pc := 951) C hX hbl (hv 1 (by decide) (by decide)) dL_law_951 ?_
  refine V_aload_n (pc := 952) C dL_law_952 rfl 1 rfl ?_
  refine V_iload (pc := 953) C dL_law_953 5 rfl ?_
  refine V_iconst (pc := 955) C (v := 2) dL_law_955 rfl ?_
  refine V_iadd (pc := 956) C dL_law_956 ?_
  refine V_sld (pc := 957) C hX hbl (hv 2 (by decide) (by decide)) dL_law_957 ?_
  refine V_aload_n (pc := 958) C dL_law_958 rfl 1 rfl ?_
  refine V_iload (pc := 959) C dL_law_959 5 rfl ?_
  refine V_iconst (pc := 961) C (v := 3) dL_law_961 rfl ?_
  refine V_iadd (pc := 962) C dL_law_962 ?_
  refine V_sld (pc := 963) C hX hbl (hv 3 (by decide) (by decide)) dL_law_963 ?_
  refine V_aload_n (pc := 964) C dL_law_964 rfl 1 rfl ?_
  refine V_iload (pc := 965) C dL_law_965 5 rfl ?_
  refine V_iconst (pc := 967) C (v := 4) dL_law_967 rfl ?_
  refine V_iadd (pc := 968) C dL_law_968 ?_
  refine V_sld (pc := 969) C hX hbl (hv 4 (by decide) (by decide)) dL_law_969 ?_
  refine V_callV (pc := 970) C (ct_X8_hold hT hl h) g1206 g1207 g1208 g1209 g64 ⟨by decide, by decide, pl_X8_hold⟩ (enc_ne63 (by decide)) (ct_obj hT rfl (by decide)) rfl ⟨by decide, by decide⟩ (rest := []) rfl (le8 rfl) dL_law_970 (fun v2 S2 h => ?_) (fun k9 S9 hk h => absurd h.1 (by omega))
  obtain ⟨-, e1, e2, h⟩ := h
  refine V_st (st' := [Value.int v2]) rfl ?_
  refine V_istore (pc := 973) C dL_law_973 (by decide) rfl ?_
  refine V_aload_n (pc := 975) C dL_law_975 rfl 4 rfl ?_
  refine V_callV (pc := 976) C (ct_X8_thrown hT hl (Qa := fun k3 v3 S3 => k3 = 0 ∧ v3 = S2.1 342 0 ∧ S3 = S2) ⟨rfl, rfl, rfl⟩) g1109 g1110 g1111 g1112 g64 ⟨by decide, by decide, pl_X8_thrown⟩ (enc_ne63 (by decide)) (ct_obj hT rfl (by decide)) rfl ⟨by decide, by decide⟩ (rest := []) rfl (le8 rfl) dL_law_976 (fun v3 S3 h3 => ?_) (fun k9 S9 hk h3 => absurd h3.1 (by omega))
  obtain ⟨-, e3, e4⟩ := h3
  subst e4
  refine V_st (st' := [Value.int v3]) rfl ?_
  refine V_iload (pc := 979) C dL_law_979 1 rfl ?_
  refine V_icmp_eq (pc := 981) (tgt := 986) C dL_law_981 (by decide) ⟨fun z => z, fun z => z⟩ (fun _ => ?_) (fun z => absurd (e3.trans e1) z)
  refine V_iload (pc := 986) C dL_law_986 1 rfl ?_
  refine V_if_ne (pc := 988) (tgt := 1003) C dL_law_988 (by decide) ⟨fun z => z, fun z => z⟩ (fun _ => ?_) (fun v0 => ?_)
  · skip
    refine V_goto (pc := 1003) (tgt := 2369) C dL_law_1003 (by decide) ?_
    refine V_sub [2, 3, 4, 5, 6] rfl ?_
    exact kk h
  refine V_aload_n (pc := 991) C dL_law_991 rfl 5 rfl ?_
  refine V_iconst (pc := 992) C (v := 0) dL_law_992 rfl ?_
  refine V_laldO (pc := 993) C hT dL_law_993 ?_
  refine V_iload (pc := 994) C dL_law_994 0 rfl ?_
  refine V_i2l (pc := 996) C dL_law_996 ?_
  refine V_lcmp (pc := 997) C dL_law_997 ?_
  refine V_if_eq (pc := 998) (tgt := 1003) C dL_law_998 (by decide) ⟨fun z => z, fun z => z⟩ (fun _ => ?_) (fun z => absurd (by rw [e2 v0]; exact cmp_self) z)
  refine V_goto (pc := 1003) (tgt := 2369) C dL_law_1003 (by decide) ?_
  refine V_sub [2, 3, 4, 5, 6] rfl ?_
  exact kk h
theorem case_letGo (hT : xT X = tb1) (hl : l.stackTraces = false) (C : Cn X k0 p l R s m meth c cL_law RL 7 15 584) {L : Nat} {xs : Nat → Int32} (hX : va_X (xB X) L xs s (xH X)) (hbl : xB X < (xH X).size) {x4 : Int32} (hv : ∀ j : Int32, 1 ≤ j → j ≤ 6 → vp_in (x4 + j) L) {K : Sg → Prop} (kk : ∀ {T : Sg}, K T → V X p l e R s m args below meth c 7 Q S0 ad0 T 2369 [(0, Value.ref 63), (1, Value.ref (enc 0 0)), (2, Value.ref (enc 12 0)), (3, Value.ref (enc 14 0)), (4, Value.int x4)] []) {S : Sg} (h : w_L_letGo (xs (nt (x4 + 1))) S (LQ (fun S Q => w_X8_letGo (xs (nt (x4 + 1))) S Q) K)) : V X p l e R s m args below meth c 7 Q S0 ad0 S 1006 [(0, Value.ref 63), (1, Value.ref (enc 0 0)), (2, Value.ref (enc 12 0)), (3, Value.ref (enc 14 0)), (4, Value.int x4)] [] := by
  refine V_aload_n (pc := 1006) C dL_law_1006 rfl 1 rfl ?_
  refine V_aload_n (pc := 1007) C dL_law_1007 rfl 0 rfl ?_
  refine V_iload (pc := 1008) C dL_law_1008 4 rfl ?_
  refine V_iconst (pc := 1010) C (v := 1) dL_law_1010 rfl ?_
  refine V_iadd (pc := 1011) C dL_law_1011 ?_
  refine V_sld (pc := 1012) C hX hbl (hv 1 (by decide) (by decide)) dL_law_1012 ?_
  refine V_aload_n (pc := 1013) C dL_law_1013 rfl 3 rfl ?_
  refine V_callH (pc := 1014) C (ct_L_letGo hT hl h) g730 g731 g732 g59 ⟨by decide, by decide, pl_L_letGo⟩ ⟨by decide, by decide⟩ (rest := []) rfl (le8 rfl) dL_law_1014 (fun v S1 h => ?_) (fun k9 S9 hk h => absurd h.1 (by omega))
  replace h := h.2
  refine V_st (st' := [Value.int v]) rfl ?_
  refine V_istore (pc := 1017) C dL_law_1017 (by decide) rfl ?_
  refine V_aload_n (pc := 1019) C dL_law_1019 rfl 3 rfl ?_
  refine V_aload_n (pc := 1020) C dL_law_1020 rfl 1 rfl ?_
  refine V_iload (pc := 1021) C dL_law_1021 5 rfl ?_
  refine V_iconst (pc := 1023) C (v := 1) dL_law_1023 rfl ?_
  refine V_iadd (pc := 1024) C dL_law_1024 ?_
  refine V_sld (pc := 1025) C hX hbl (hv 1 (by decide) (by decide)) dL_law_1025 ?_
  refine V_callV (pc := 1026) C (ct_X8_letGo hT hl h) g1222 g1223 g1224 g1225 g64 ⟨by decide, by decide, pl_X8_letGo⟩ (enc_ne63 (by decide)) (ct_obj hT rfl (by decide)) rfl ⟨by decide, by decide⟩ (rest := []) rfl (le8 rfl) dL_law_1026 (fun v2 S2 h => ?_) (fun k9 S9 hk h => absurd h.1 (by omega))
  obtain ⟨-, e1, e2, h⟩ := h
  refine V_st (st' := [Value.int v2]) rfl ?_
  refine V_istore (pc := 1029) C dL_law_1029 (by decide) rfl ?_
  refine V_aload_n (pc := 1031) C dL_law_1031 rfl 4 rfl ?_
  refine V_callV (pc := 1032) C (ct_X8_thrown hT hl (Qa := fun k3 v3 S3 => k3 = 0 ∧ v3 = S2.1 342 0 ∧ S3 = S2) ⟨rfl, rfl, rfl⟩) g1109 g1110 g1111 g1112 g64 ⟨by decide, by decide, pl_X8_thrown⟩ (enc_ne63 (by decide)) (ct_obj hT rfl (by decide)) rfl ⟨by decide, by decide⟩ (rest := []) rfl (le8 rfl) dL_law_1032 (fun v3 S3 h3 => ?_) (fun k9 S9 hk h3 => absurd h3.1 (by omega))
  obtain ⟨-, e3, e4⟩ := h3
  subst e4
  refine V_st (st' := [Value.int v3]) rfl ?_
  refine V_iload (pc := 1035) C dL_law_1035 1 rfl ?_
  refine V_icmp_eq (pc := 1037) (tgt := 1042) C dL_law_1037 (by decide) ⟨fun z => z, fun z => z⟩ (fun _ => ?_) (fun z => absurd (e3.trans e1) z)
  refine V_iload (pc := 1042) C dL_law_1042 1 rfl ?_
  refine V_if_ne (pc := 1044) (tgt := 1059) C dL_law_1044 (by decide) ⟨fun z => z, fun z => z⟩ (fun _ => ?_) (fun v0 => ?_)
  · skip
    refine V_goto (pc := 1059) (tgt := 2369) C dL_law_1059 (by decide) ?_
    refine V_sub [2, 3, 4, 5, 6] rfl ?_
    exact kk h
  refine V_aload_n (pc := 1047) C dL_law_1047 rfl 5 rfl ?_
  refine V_iconst (pc := 1048) C (v := 0) dL_law_1048 rfl ?_
  refine V_laldO (pc := 1049) C hT dL_law_1049 ?_
  refine V_iload (pc := 1050) C dL_law_1050 0 rfl ?_
  refine V_i2l (pc := 1052) C dL_law_1052 ?_
  refine V_lcmp (pc := 1053) C dL_law_1053 ?_
  refine V_if_eq (pc := 1054) (tgt := 1059) C dL_law_1054 (by decide) ⟨fun z => z, fun z => z⟩ (fun _ => ?_) (fun z => absurd (by rw [e2 v0]; exact cmp_self) z)
  refine V_goto (pc := 1059) (tgt := 2369) C dL_law_1059 (by decide) ?_
  refine V_sub [2, 3, 4, 5, 6] rfl ?_
  exact kk h
theorem case_buy (hT : xT X = tb1) (hl : l.stackTraces = false) (C : Cn X k0 p l R s m meth c cL_law RL 7 15 584) {L : Nat} {xs : Nat → Int32} (hX : va_X (xB X) L xs s (xH X)) (hbl : xB X < (xH X).size) {x4 : Int32} (hv : ∀ j : Int32, 1 ≤ j → j ≤ 6 → vp_in (x4 + j) L) {K : Sg → Prop} (kk : ∀ {T : Sg}, K T → V X p l e R s m args below meth c 7 Q S0 ad0 T 2369 [(0, Value.ref 63), (1, Value.ref (enc 0 0)), (2, Value.ref (enc 12 0)), (3, Value.ref (enc 14 0)), (4, Value.int x4)] []) {S : Sg} (h : w_L_buy (xs (nt (x4 + 1))) (xs (nt (x4 + 2))) S (LQ (fun S Q => w_X8_buy (xs (nt (x4 + 1))) (xs (nt (x4 + 2))) S Q) K)) : V X p l e R s m args below meth c 7 Q S0 ad0 S 1062 [(0, Value.ref 63), (1, Value.ref (enc 0 0)), (2, Value.ref (enc 12 0)), (3, Value.ref (enc 14 0)), (4, Value.int x4)] [] := by
  refine V_aload_n (pc := 1062) C dL_law_1062 rfl 1 rfl ?_
  refine V_aload_n (pc := 1063) C dL_law_1063 rfl 0 rfl ?_
  refine V_iload (pc := 1064) C dL_law_1064 4 rfl ?_
  refine V_iconst (pc := 1066) C (v := 1) dL_law_1066 rfl ?_
  refine V_iadd (pc := 1067) C dL_law_1067 ?_
  refine V_sld (pc := 1068) C hX hbl (hv 1 (by decide) (by decide)) dL_law_1068 ?_
  refine V_aload_n (pc := 1069) C dL_law_1069 rfl 0 rfl ?_
  refine V_iload (pc := 1070) C dL_law_1070 4 rfl ?_
  refine V_iconst (pc := 1072) C (v := 2) dL_law_1072 rfl ?_
  refine V_iadd (pc := 1073) C dL_law_1073 ?_
  refine V_sld (pc := 1074) C hX hbl (hv 2 (by decide) (by decide)) dL_law_1074 ?_
  refine V_aload_n (pc := 1075) C dL_law_1075 rfl 3 rfl ?_
  refine V_callH (pc := 1076) C (ct_L_buy hT hl h) g747 g748 g749 g59 ⟨by decide, by decide, pl_L_buy⟩ ⟨by decide, by decide⟩ (rest := []) rfl (le8 rfl) dL_law_1076 (fun v S1 h => ?_) (fun k9 S9 hk h => absurd h.1 (by omega))
  replace h := h.2
  refine V_st (st' := [Value.int v]) rfl ?_
  refine V_istore (pc := 1079) C dL_law_1079 (by decide) rfl ?_
  refine V_aload_n (pc := 1081) C dL_law_1081 rfl 3 rfl ?_
  refine V_aload_n (pc := 1082) C dL_law_1082 rfl 1 rfl ?_
  refine V_iload (pc := 1083) C dL_law_1083 5 rfl ?_
  refine V_iconst (pc := 1085) C (v := 1) dL_law_1085 rfl ?_
  refine V_iadd (pc := 1086) C dL_law_1086 ?_
  refine V_sld (pc := 1087) C hX hbl (hv 1 (by decide) (by decide)) dL_law_1087 ?_
  refine V_aload_n (pc := 1088) C dL_law_1088 rfl 1 rfl ?_
  refine V_iload (pc := 1089) C dL_law_1089 5 rfl ?_
  refine V_iconst (pc := 1091) C (v := 2) dL_law_1091 rfl ?_
  refine V_iadd (pc := 1092) C dL_law_1092 ?_
  refine V_sld (pc := 1093) C hX hbl (hv 2 (by decide) (by decide)) dL_law_1093 ?_
  refine V_callV (pc := 1094) C (ct_X8_buy hT hl h) g1230 g1231 g1232 g1233 g64 ⟨by decide, by decide, pl_X8_buy⟩ (enc_ne63 (by decide)) (ct_obj hT rfl (by decide)) rfl ⟨by decide, by decide⟩ (rest := []) rfl (le8 rfl) dL_law_1094 (fun v2 S2 h => ?_) (fun k9 S9 hk h => absurd h.1 (by omega))
  obtain ⟨-, e1, e2, h⟩ := h
  refine V_st (st' := [Value.int v2]) rfl ?_
  refine V_istore (pc := 1097) C dL_law_1097 (by decide) rfl ?_
  refine V_aload_n (pc := 1099) C dL_law_1099 rfl 4 rfl ?_
  refine V_callV (pc := 1100) C (ct_X8_thrown hT hl (Qa := fun k3 v3 S3 => k3 = 0 ∧ v3 = S2.1 342 0 ∧ S3 = S2) ⟨rfl, rfl, rfl⟩) g1109 g1110 g1111 g1112 g64 ⟨by decide, by decide, pl_X8_thrown⟩ (enc_ne63 (by decide)) (ct_obj hT rfl (by decide)) rfl ⟨by decide, by decide⟩ (rest := []) rfl (le8 rfl) dL_law_1100 (fun v3 S3 h3 => ?_) (fun k9 S9 hk h3 => absurd h3.1 (by omega))
  obtain ⟨-, e3, e4⟩ := h3
  subst e4
  refine V_st (st' := [Value.int v3]) rfl ?_
  refine V_iload (pc := 1103) C dL_law_1103 1 rfl ?_
  refine V_icmp_eq (pc := 1105) (tgt := 1110) C dL_law_1105 (by decide) ⟨fun z => z, fun z => z⟩ (fun _ => ?_) (fun z => absurd (e3.trans e1) z)
  refine V_iload (pc := 1110) C dL_law_1110 1 rfl ?_
  refine V_if_ne (pc := 1112) (tgt := 1127) C dL_law_1112 (by decide) ⟨fun z => z, fun z => z⟩ (fun _ => ?_) (fun v0 => ?_)
  · skip
    refine V_goto (pc := 1127) (tgt := 2369) C dL_law_1127 (by decide) ?_
    refine V_sub [2, 3, 4, 5, 6] rfl ?_
    exact kk h
  refine V_aload_n (pc := 1115) C dL_law_1115 rfl 5 rfl ?_
  refine V_iconst (pc := 1116) C (v := 0) dL_law_1116 rfl ?_
  refine V_laldO (pc := 1117) C hT dL_law_1117 ?_
  refine V_iload (pc := 1118) C dL_law_1118 0 rfl ?_
  refine V_i2l (pc := 1120) C dL_law_1120 ?_
  refine V_lcmp (pc := 1121) C dL_law_1121 ?_
  refine V_if_eq (pc := 1122) (tgt := 1127) C dL_law_1122 (by decide) ⟨fun z => z, fun z => z⟩ (fun _ => ?_) (fun z => absurd (by rw [e2 v0]; exact cmp_self) z)
  refine V_goto (pc := 1127) (tgt := 2369) C dL_law_1127 (by decide) ?_
  refine V_sub [2, 3, 4, 5, 6] rfl ?_
  exact kk h
theorem case_sell (hT : xT X = tb1) (hl : l.stackTraces = false) (C : Cn X k0 p l R s m meth c cL_law RL 7 15 584) {L : Nat} {xs : Nat → Int32} (hX : va_X (xB X) L xs s (xH X)) (hbl : xB X < (xH X).size) {x4 : Int32} (hv : ∀ j : Int32, 1 ≤ j → j ≤ 6 → vp_in (x4 + j) L) {K : Sg → Prop} (kk : ∀ {T : Sg}, K T → V X p l e R s m args below meth c 7 Q S0 ad0 T 2369 [(0, Value.ref 63), (1, Value.ref (enc 0 0)), (2, Value.ref (enc 12 0)), (3, Value.ref (enc 14 0)), (4, Value.int x4)] []) {S : Sg} (h : w_L_sell (xs (nt (x4 + 1))) (xs (nt (x4 + 2))) (xs (nt (x4 + 3))) (xs (nt (x4 + 4))) S (LQ (fun S Q => w_X8_sell (xs (nt (x4 + 1))) (xs (nt (x4 + 2))) (xs (nt (x4 + 3))) (xs (nt (x4 + 4))) S Q) K)) : V X p l e R s m args below meth c 7 Q S0 ad0 S 1130 [(0, Value.ref 63), (1, Value.ref (enc 0 0)), (2, Value.ref (enc 12 0)), (3, Value.ref (enc 14 0)), (4, Value.int x4)] [] := by
  refine V_aload_n (pc := 1130) C dL_law_1130 rfl 1 rfl ?_
  refine V_aload_n (pc := 1131) C dL_law_1131 rfl 0 rfl ?_
  refine V_iload (pc := 1132) C dL_law_1132 4 rfl ?_
  refine V_iconst (pc := 1134) C (v := 1) dL_law_1134 rfl ?_
  refine V_iadd (pc := 1135) C dL_law_1135 ?_
  refine V_sld (pc := 1136) C hX hbl (hv 1 (by decide) (by decide)) dL_law_1136 ?_
  refine V_aload_n (pc := 1137) C dL_law_1137 rfl 0 rfl ?_
  refine V_iload (pc := 1138) C dL_law_1138 4 rfl ?_
  refine V_iconst (pc := 1140) C (v := 2) dL_law_1140 rfl ?_
  refine V_iadd (pc := 1141) C dL_law_1141 ?_
  refine V_sld (pc := 1142) C hX hbl (hv 2 (by decide) (by decide)) dL_law_1142 ?_
  refine V_aload_n (pc := 1143) C dL_law_1143 rfl 0 rfl ?_
  refine V_iload (pc := 1144) C dL_law_1144 4 rfl ?_
  refine V_iconst (pc := 1146) C (v := 3) dL_law_1146 rfl ?_
  refine V_iadd (pc := 1147) C dL_law_1147 ?_
  refine V_sld (pc := 1148) C hX hbl (hv 3 (by decide) (by decide)) dL_law_1148 ?_
  refine V_aload_n (pc := 1149) C dL_law_1149 rfl 0 rfl ?_
  refine V_iload (pc := 1150) C dL_law_1150 4 rfl ?_
  refine V_iconst (pc := 1152) C (v := 4) dL_law_1152 rfl ?_
  refine V_iadd (pc := 1153) C dL_law_1153 ?_
  refine V_sld (pc := 1154) C hX hbl (hv 4 (by decide) (by decide)) dL_law_1154 ?_
  refine V_aload_n (pc := 1155) C dL_law_1155 rfl 3 rfl ?_
  refine V_callH (pc := 1156) C (ct_L_sell hT hl h) g763 g764 g765 g59 ⟨by decide, by decide, pl_L_sell⟩ ⟨by decide, by decide⟩ (rest := []) rfl (le8 rfl) dL_law_1156 (fun v S1 h => ?_) (fun k9 S9 hk h => absurd h.1 (by omega))
  replace h := h.2
  refine V_st (st' := [Value.int v]) rfl ?_
  refine V_istore (pc := 1159) C dL_law_1159 (by decide) rfl ?_
  refine V_aload_n (pc := 1161) C dL_law_1161 rfl 3 rfl ?_
  refine V_aload_n (pc := 1162) C dL_law_1162 rfl 1 rfl ?_
  refine V_iload (pc := 1163) C dL_law_1163 5 rfl ?_
  refine V_iconst (pc := 1165) C (v := 1) dL_law_1165 rfl ?_
  refine V_iadd (pc := 1166) C dL_law_1166 ?_
  refine V_sld (pc := 1167) C hX hbl (hv 1 (by decide) (by decide)) dL_law_1167 ?_
  refine V_aload_n (pc := 1168) C dL_law_1168 rfl 1 rfl ?_
  refine V_iload (pc := 1169) C dL_law_1169 5 rfl ?_
  refine V_iconst (pc := 1171) C (v := 2) dL_law_1171 rfl ?_
  refine V_iadd (pc := 1172) C dL_law_1172 ?_
  refine V_sld (pc := 1173) C hX hbl (hv 2 (by decide) (by decide)) dL_law_1173 ?_
  refine V_aload_n (pc := 1174) C dL_law_1174 rfl 1 rfl ?_
  refine V_iload (pc := 1175) C dL_law_1175 5 rfl ?_
  refine V_iconst (pc := 1177) C (v := 3) dL_law_1177 rfl ?_
  refine V_iadd (pc := 1178) C dL_law_1178 ?_
  refine V_sld (pc := 1179) C hX hbl (hv 3 (by decide) (by decide)) dL_law_1179 ?_
  refine V_aload_n (pc := 1180) C dL_law_1180 rfl 1 rfl ?_
  refine V_iload (pc := 1181) C dL_law_1181 5 rfl ?_
  refine V_iconst (pc := 1183) C (v := 4) dL_law_1183 rfl ?_
  refine V_iadd (pc := 1184) C dL_law_1184 ?_
  refine V_sld (pc := 1185) C hX hbl (hv 4 (by decide) (by decide)) dL_law_1185 ?_
  refine V_callV (pc := 1186) C (ct_X8_sell hT hl h) g1241 g1242 g1243 g1244 g64 ⟨by decide, by decide, pl_X8_sell⟩ (enc_ne63 (by decide)) (ct_obj hT rfl (by decide)) rfl ⟨by decide, by decide⟩ (rest := []) rfl (le8 rfl) dL_law_1186 (fun v2 S2 h => ?_) (fun k9 S9 hk h => absurd h.1 (by omega))
  obtain ⟨-, e1, e2, h⟩ := h
  refine V_st (st' := [Value.int v2]) rfl ?_
  refine V_istore (pc := 1189) C dL_law_1189 (by decide) rfl ?_
  refine V_aload_n (pc := 1191) C dL_law_1191 rfl 4 rfl ?_
  refine V_callV (pc := 1192) C (ct_X8_thrown hT hl (Qa := fun k3 v3 S3 => k3 = 0 ∧ v3 = S2.1 342 0 ∧ S3 = S2) ⟨rfl, rfl, rfl⟩) g1109 g1110 g1111 g1112 g64 ⟨by decide, by decide, pl_X8_thrown⟩ (enc_ne63 (by decide)) (ct_obj hT rfl (by decide)) rfl ⟨by decide, by decide⟩ (rest := []) rfl (le8 rfl) dL_law_1192 (fun v3 S3 h3 => ?_) (fun k9 S9 hk h3 => absurd h3.1 (by omega))
  obtain ⟨-, e3, e4⟩ := h3
  subst e4
  refine V_st (st' := [Value.int v3]) rfl ?_
  refine V_iload (pc := 1195) C dL_law_1195 1 rfl ?_
  refine V_icmp_eq (pc := 1197) (tgt := 1202) C dL_law_1197 (by decide) ⟨fun z => z, fun z => z⟩ (fun _ => ?_) (fun z => absurd (e3.trans e1) z)
  refine V_iload (pc := 1202) C dL_law_1202 1 rfl ?_
  refine V_if_ne (pc := 1204) (tgt := 1219) C dL_law_1204 (by decide) ⟨fun z => z, fun z => z⟩ (fun _ => ?_) (fun v0 => ?_)
  · skip
    refine V_goto (pc := 1219) (tgt := 2369) C dL_law_1219 (by decide) ?_
    refine V_sub [2, 3, 4, 5, 6] rfl ?_
    exact kk h
  refine V_aload_n (pc := 1207) C dL_law_1207 rfl 5 rfl ?_
  refine V_iconst (pc := 1208) C (v := 0) dL_law_1208 rfl ?_
  refine V_laldO (pc := 1209) C hT dL_law_1209 ?_
  refine V_iload (pc := 1210) C dL_law_1210 0 rfl ?_
  refine V_i2l (pc := 1212) C dL_law_1212 ?_
  refine V_lcmp (pc := 1213) C dL_law_1213 ?_
  refine V_if_eq (pc := 1214) (tgt := 1219) C dL_law_1214 (by decide) ⟨fun z => z, fun z => z⟩ (fun _ => ?_) (fun z => absurd (by rw [e2 v0]; exact cmp_self) z)
  refine V_goto (pc := 1219) (tgt := 2369) C dL_law_1219 (by decide) ?_
  refine V_sub [2, 3, 4, 5, 6] rfl ?_
  exact kk h
theorem case_group (hT : xT X = tb1) (hl : l.stackTraces = false) (C : Cn X k0 p l R s m meth c cL_law RL 7 15 584) {L : Nat} {xs : Nat → Int32} (hX : va_X (xB X) L xs s (xH X)) (hbl : xB X < (xH X).size) {x4 : Int32} (hv : ∀ j : Int32, 1 ≤ j → j ≤ 6 → vp_in (x4 + j) L) {K : Sg → Prop} (kk : ∀ {T : Sg}, K T → V X p l e R s m args below meth c 7 Q S0 ad0 T 2369 [(0, Value.ref 63), (1, Value.ref (enc 0 0)), (2, Value.ref (enc 12 0)), (3, Value.ref (enc 14 0)), (4, Value.int x4)] []) {S : Sg} (h : w_L_group (xs (nt (x4 + 1))) (xs (nt (x4 + 2))) (xs (nt (x4 + 3))) S (LQ (fun S Q => w_X8_group (xs (nt (x4 + 1))) (xs (nt (x4 + 2))) (xs (nt (x4 + 3))) S Q) K)) : V X p l e R s m args below meth c 7 Q S0 ad0 S 1222 [(0, Value.ref 63), (1, Value.ref (enc 0 0)), (2, Value.ref (enc 12 0)), (3, Value.ref (enc 14 0)), (4, Value.int x4)] [] := by
  refine V_aload_n (pc := 1222) C dL_law_1222 rfl 1 rfl ?_
  refine V_aload_n (pc := 1223) C dL_law_1223 rfl 0 rfl ?_
  refine V_iload (pc := 1224) C dL_law_1224 4 rfl ?_
  refine V_iconst (pc := 1226) C (v := 1) dL_law_1226 rfl ?_
  refine V_iadd (pc := 1227) C dL_law_1227 ?_
  refine V_sld (pc := 1228) C hX hbl (hv 1 (by decide) (by decide)) dL_law_1228 ?_
  refine V_aload_n (pc := 1229) C dL_law_1229 rfl 0 rfl ?_
  refine V_iload (pc := 1230) C dL_law_1230 4 rfl ?_
  refine V_iconst (pc := 1232) C (v := 2) dL_law_1232 rfl ?_
  refine V_iadd (pc := 1233) C dL_law_1233 ?_
  refine V_sld (pc := 1234) C hX hbl (hv 2 (by decide) (by decide)) dL_law_1234 ?_
  refine V_aload_n (pc := 1235) C dL_law_1235 rfl 0 rfl ?_
  refine V_iload (pc := 1236) C dL_law_1236 4 rfl ?_
  refine V_iconst (pc := 1238) C (v := 3) dL_law_1238 rfl ?_
  refine V_iadd (pc := 1239) C dL_law_1239 ?_
  refine V_sld (pc := 1240) C hX hbl (hv 3 (by decide) (by decide)) dL_law_1240 ?_
  refine V_aload_n (pc := 1241) C dL_law_1241 rfl 3 rfl ?_
  refine V_callH (pc := 1242) C (ct_L_group hT hl h) g770 g771 g772 g59 ⟨by decide, by decide, pl_L_group⟩ ⟨by decide, by decide⟩ (rest := []) rfl (le8 rfl) dL_law_1242 (fun v S1 h => ?_) (fun k9 S9 hk h => absurd h.1 (by omega))
  replace h := h.2
  refine V_st (st' := [Value.int v]) rfl ?_
  refine V_istore (pc := 1245) C dL_law_1245 (by decide) rfl ?_
  refine V_aload_n (pc := 1247) C dL_law_1247 rfl 3 rfl ?_
  refine V_aload_n (pc := 1248) C dL_law_1248 rfl 1 rfl ?_
  refine V_iload (pc := 1249) C dL_law_1249 5 rfl ?_
  refine V_iconst (pc := 1251) C (v := 1) dL_law_1251 rfl ?_
  refine V_iadd (pc := 1252) C dL_law_1252 ?_
  refine V_sld (pc := 1253) C hX hbl (hv 1 (by decide) (by decide)) dL_law_1253 ?_
  refine V_aload_n (pc := 1254) C dL_law_1254 rfl 1 rfl ?_
  refine V_iload (pc := 1255) C dL_law_1255 5 rfl ?_
  refine V_iconst (pc := 1257) C (v := 2) dL_law_1257 rfl ?_
  refine V_iadd (pc := 1258) C dL_law_1258 ?_
  refine V_sld (pc := 1259) C hX hbl (hv 2 (by decide) (by decide)) dL_law_1259 ?_
  refine V_aload_n (pc := 1260) C dL_law_1260 rfl 1 rfl ?_
  refine V_iload (pc := 1261) C dL_law_1261 5 rfl ?_
  refine V_iconst (pc := 1263) C (v := 3) dL_law_1263 rfl ?_
  refine V_iadd (pc := 1264) C dL_law_1264 ?_
  refine V_sld (pc := 1265) C hX hbl (hv 3 (by decide) (by decide)) dL_law_1265 ?_
  refine V_callV (pc := 1266) C (ct_X8_group hT hl h) g1245 g1246 g1247 g1248 g64 ⟨by decide, by decide, pl_X8_group⟩ (enc_ne63 (by decide)) (ct_obj hT rfl (by decide)) rfl ⟨by decide, by decide⟩ (rest := []) rfl (le8 rfl) dL_law_1266 (fun v2 S2 h => ?_) (fun k9 S9 hk h => absurd h.1 (by omega))
  obtain ⟨-, e1, e2, h⟩ := h
  refine V_st (st' := [Value.int v2]) rfl ?_
  refine V_istore (pc := 1269) C dL_law_1269 (by decide) rfl ?_
  refine V_aload_n (pc := 1271) C dL_law_1271 rfl 4 rfl ?_
  refine V_callV (pc := 1272) C (ct_X8_thrown hT hl (Qa := fun k3 v3 S3 => k3 = 0 ∧ v3 = S2.1 342 0 ∧ S3 = S2) ⟨rfl, rfl, rfl⟩) g1109 g1110 g1111 g1112 g64 ⟨by decide, by decide, pl_X8_thrown⟩ (enc_ne63 (by decide)) (ct_obj hT rfl (by decide)) rfl ⟨by decide, by decide⟩ (rest := []) rfl (le8 rfl) dL_law_1272 (fun v3 S3 h3 => ?_) (fun k9 S9 hk h3 => absurd h3.1 (by omega))
  obtain ⟨-, e3, e4⟩ := h3
  subst e4
  refine V_st (st' := [Value.int v3]) rfl ?_
  refine V_iload (pc := 1275) C dL_law_1275 1 rfl ?_
  refine V_icmp_eq (pc := 1277) (tgt := 1282) C dL_law_1277 (by decide) ⟨fun z => z, fun z => z⟩ (fun _ => ?_) (fun z => absurd (e3.trans e1) z)
  refine V_iload (pc := 1282) C dL_law_1282 1 rfl ?_
  refine V_if_ne (pc := 1284) (tgt := 1299) C dL_law_1284 (by decide) ⟨fun z => z, fun z => z⟩ (fun _ => ?_) (fun v0 => ?_)
  · skip
    refine V_goto (pc := 1299) (tgt := 2369) C dL_law_1299 (by decide) ?_
    refine V_sub [2, 3, 4, 5, 6] rfl ?_
    exact kk h
  refine V_aload_n (pc := 1287) C dL_law_1287 rfl 5 rfl ?_
  refine V_iconst (pc := 1288) C (v := 0) dL_law_1288 rfl ?_
  refine V_laldO (pc := 1289) C hT dL_law_1289 ?_
  refine V_iload (pc := 1290) C dL_law_1290 0 rfl ?_
  refine V_i2l (pc := 1292) C dL_law_1292 ?_
  refine V_lcmp (pc := 1293) C dL_law_1293 ?_
  refine V_if_eq (pc := 1294) (tgt := 1299) C dL_law_1294 (by decide) ⟨fun z => z, fun z => z⟩ (fun _ => ?_) (fun z => absurd (by rw [e2 v0]; exact cmp_self) z)
  refine V_goto (pc := 1299) (tgt := 2369) C dL_law_1299 (by decide) ?_
  refine V_sub [2, 3, 4, 5, 6] rfl ?_
  exact kk h
theorem case_giveBack (hT : xT X = tb1) (hl : l.stackTraces = false) (C : Cn X k0 p l R s m meth c cL_law RL 7 15 584) {L : Nat} {xs : Nat → Int32} (hX : va_X (xB X) L xs s (xH X)) (hbl : xB X < (xH X).size) {x4 : Int32} (hv : ∀ j : Int32, 1 ≤ j → j ≤ 6 → vp_in (x4 + j) L) {K : Sg → Prop} (kk : ∀ {T : Sg}, K T → V X p l e R s m args below meth c 7 Q S0 ad0 T 2369 [(0, Value.ref 63), (1, Value.ref (enc 0 0)), (2, Value.ref (enc 12 0)), (3, Value.ref (enc 14 0)), (4, Value.int x4)] []) {S : Sg} (h : w_L_giveBack (xs (nt (x4 + 1))) S (LQ (fun S Q => w_X8_giveBack (xs (nt (x4 + 1))) S Q) K)) : V X p l e R s m args below meth c 7 Q S0 ad0 S 1302 [(0, Value.ref 63), (1, Value.ref (enc 0 0)), (2, Value.ref (enc 12 0)), (3, Value.ref (enc 14 0)), (4, Value.int x4)] [] := by
  refine V_aload_n (pc := 1302) C dL_law_1302 rfl 1 rfl ?_
  refine V_aload_n (pc := 1303) C dL_law_1303 rfl 0 rfl ?_
  refine V_iload (pc := 1304) C dL_law_1304 4 rfl ?_
  refine V_iconst (pc := 1306) C (v := 1) dL_law_1306 rfl ?_
  refine V_iadd (pc := 1307) C dL_law_1307 ?_
  refine V_sld (pc := 1308) C hX hbl (hv 1 (by decide) (by decide)) dL_law_1308 ?_
  refine V_aload_n (pc := 1309) C dL_law_1309 rfl 3 rfl ?_
  refine V_callH (pc := 1310) C (ct_L_giveBack hT hl h) g791 g792 g793 g59 ⟨by decide, by decide, pl_L_giveBack⟩ ⟨by decide, by decide⟩ (rest := []) rfl (le8 rfl) dL_law_1310 (fun v S1 h => ?_) (fun k9 S9 hk h => absurd h.1 (by omega))
  replace h := h.2
  refine V_st (st' := [Value.int v]) rfl ?_
  refine V_istore (pc := 1313) C dL_law_1313 (by decide) rfl ?_
  refine V_aload_n (pc := 1315) C dL_law_1315 rfl 3 rfl ?_
  refine V_aload_n (pc := 1316) C dL_law_1316 rfl 1 rfl ?_
  refine V_iload (pc := 1317) C dL_law_1317 5 rfl ?_
  refine V_iconst (pc := 1319) C (v := 1) dL_law_1319 rfl ?_
  refine V_iadd (pc := 1320) C dL_law_1320 ?_
  refine V_sld (pc := 1321) C hX hbl (hv 1 (by decide) (by decide)) dL_law_1321 ?_
  refine V_callV (pc := 1322) C (ct_X8_giveBack hT hl h) g1253 g1254 g1255 g1256 g64 ⟨by decide, by decide, pl_X8_giveBack⟩ (enc_ne63 (by decide)) (ct_obj hT rfl (by decide)) rfl ⟨by decide, by decide⟩ (rest := []) rfl (le8 rfl) dL_law_1322 (fun v2 S2 h => ?_) (fun k9 S9 hk h => absurd h.1 (by omega))
  obtain ⟨-, e1, e2, h⟩ := h
  refine V_st (st' := [Value.int v2]) rfl ?_
  refine V_istore (pc := 1325) C dL_law_1325 (by decide) rfl ?_
  refine V_aload_n (pc := 1327) C dL_law_1327 rfl 4 rfl ?_
  refine V_callV (pc := 1328) C (ct_X8_thrown hT hl (Qa := fun k3 v3 S3 => k3 = 0 ∧ v3 = S2.1 342 0 ∧ S3 = S2) ⟨rfl, rfl, rfl⟩) g1109 g1110 g1111 g1112 g64 ⟨by decide, by decide, pl_X8_thrown⟩ (enc_ne63 (by decide)) (ct_obj hT rfl (by decide)) rfl ⟨by decide, by decide⟩ (rest := []) rfl (le8 rfl) dL_law_1328 (fun v3 S3 h3 => ?_) (fun k9 S9 hk h3 => absurd h3.1 (by omega))
  obtain ⟨-, e3, e4⟩ := h3
  subst e4
  refine V_st (st' := [Value.int v3]) rfl ?_
  refine V_iload (pc := 1331) C dL_law_1331 1 rfl ?_
  refine V_icmp_eq (pc := 1333) (tgt := 1338) C dL_law_1333 (by decide) ⟨fun z => z, fun z => z⟩ (fun _ => ?_) (fun z => absurd (e3.trans e1) z)
  refine V_iload (pc := 1338) C dL_law_1338 1 rfl ?_
  refine V_if_ne (pc := 1340) (tgt := 1355) C dL_law_1340 (by decide) ⟨fun z => z, fun z => z⟩ (fun _ => ?_) (fun v0 => ?_)
  · skip
    refine V_goto (pc := 1355) (tgt := 2369) C dL_law_1355 (by decide) ?_
    refine V_sub [2, 3, 4, 5, 6] rfl ?_
    exact kk h
  refine V_aload_n (pc := 1343) C dL_law_1343 rfl 5 rfl ?_
  refine V_iconst (pc := 1344) C (v := 0) dL_law_1344 rfl ?_
  refine V_laldO (pc := 1345) C hT dL_law_1345 ?_
  refine V_iload (pc := 1346) C dL_law_1346 0 rfl ?_
  refine V_i2l (pc := 1348) C dL_law_1348 ?_
  refine V_lcmp (pc := 1349) C dL_law_1349 ?_
  refine V_if_eq (pc := 1350) (tgt := 1355) C dL_law_1350 (by decide) ⟨fun z => z, fun z => z⟩ (fun _ => ?_) (fun z => absurd (by rw [e2 v0]; exact cmp_self) z)
  refine V_goto (pc := 1355) (tgt := 2369) C dL_law_1355 (by decide) ?_
  refine V_sub [2, 3, 4, 5, 6] rfl ?_
  exact kk h
theorem case_join (hT : xT X = tb1) (hl : l.stackTraces = false) (C : Cn X k0 p l R s m meth c cL_law RL 7 15 584) {L : Nat} {xs : Nat → Int32} (hX : va_X (xB X) L xs s (xH X)) (hbl : xB X < (xH X).size) {x4 : Int32} (hv : ∀ j : Int32, 1 ≤ j → j ≤ 6 → vp_in (x4 + j) L) {K : Sg → Prop} (kk : ∀ {T : Sg}, K T → V X p l e R s m args below meth c 7 Q S0 ad0 T 2369 [(0, Value.ref 63), (1, Value.ref (enc 0 0)), (2, Value.ref (enc 12 0)), (3, Value.ref (enc 14 0)), (4, Value.int x4)] []) {S : Sg} (h : w_L_join (xs (nt (x4 + 1))) (xs (nt (x4 + 2))) (if xs (nt (x4 + 3)) = 0 then 0 else 1) S (LQ (fun S Q => w_X8_join (xs (nt (x4 + 1))) (xs (nt (x4 + 2))) (if xs (nt (x4 + 3)) = 0 then 0 else 1) S Q) K)) : V X p l e R s m args below meth c 7 Q S0 ad0 S 1358 [(0, Value.ref 63), (1, Value.ref (enc 0 0)), (2, Value.ref (enc 12 0)), (3, Value.ref (enc 14 0)), (4, Value.int x4)] [] := by
  refine V_aload_n (pc := 1358) C dL_law_1358 rfl 1 rfl ?_
  refine V_aload_n (pc := 1359) C dL_law_1359 rfl 0 rfl ?_
  refine V_iload (pc := 1360) C dL_law_1360 4 rfl ?_
  refine V_iconst (pc := 1362) C (v := 1) dL_law_1362 rfl ?_
  refine V_iadd (pc := 1363) C dL_law_1363 ?_
  refine V_sld (pc := 1364) C hX hbl (hv 1 (by decide) (by decide)) dL_law_1364 ?_
  refine V_aload_n (pc := 1365) C dL_law_1365 rfl 0 rfl ?_
  refine V_iload (pc := 1366) C dL_law_1366 4 rfl ?_
  refine V_iconst (pc := 1368) C (v := 2) dL_law_1368 rfl ?_
  refine V_iadd (pc := 1369) C dL_law_1369 ?_
  refine V_sld (pc := 1370) C hX hbl (hv 2 (by decide) (by decide)) dL_law_1370 ?_
  refine V_aload_n (pc := 1371) C dL_law_1371 rfl 0 rfl ?_
  refine V_iload (pc := 1372) C dL_law_1372 4 rfl ?_
  refine V_iconst (pc := 1374) C (v := 3) dL_law_1374 rfl ?_
  refine V_iadd (pc := 1375) C dL_law_1375 ?_
  refine V_sld (pc := 1376) C hX hbl (hv 3 (by decide) (by decide)) dL_law_1376 ?_
  refine V_if_eq (pc := 1377) (tgt := 1384) C dL_law_1377 (by decide) ⟨fun z => z, fun z => z⟩ (fun b0 => ?_) (fun b0 => ?_)
  · rw [if_pos b0] at h
    refine V_iconst (pc := 1384) C (v := 0) dL_law_1384 rfl ?_
    refine V_aload_n (pc := 1385) C dL_law_1385 rfl 3 rfl ?_
    refine V_callH (pc := 1386) C (ct_L_join hT hl h) g808 g809 g810 g59 ⟨by decide, by decide, pl_L_join⟩ ⟨by decide, by decide⟩ (rest := []) rfl (le8 rfl) dL_law_1386 (fun v S1 h => ?_) (fun k9 S9 hk h => absurd h.1 (by omega))
    replace h := h.2
    refine V_st (st' := [Value.int v]) rfl ?_
    refine V_istore (pc := 1389) C dL_law_1389 (by decide) rfl ?_
    refine V_aload_n (pc := 1391) C dL_law_1391 rfl 3 rfl ?_
    refine V_aload_n (pc := 1392) C dL_law_1392 rfl 1 rfl ?_
    refine V_iload (pc := 1393) C dL_law_1393 5 rfl ?_
    refine V_iconst (pc := 1395) C (v := 1) dL_law_1395 rfl ?_
    refine V_iadd (pc := 1396) C dL_law_1396 ?_
    refine V_sld (pc := 1397) C hX hbl (hv 1 (by decide) (by decide)) dL_law_1397 ?_
    refine V_aload_n (pc := 1398) C dL_law_1398 rfl 1 rfl ?_
    refine V_iload (pc := 1399) C dL_law_1399 5 rfl ?_
    refine V_iconst (pc := 1401) C (v := 2) dL_law_1401 rfl ?_
    refine V_iadd (pc := 1402) C dL_law_1402 ?_
    refine V_sld (pc := 1403) C hX hbl (hv 2 (by decide) (by decide)) dL_law_1403 ?_
    refine V_aload_n (pc := 1404) C dL_law_1404 rfl 1 rfl ?_
    refine V_iload (pc := 1405) C dL_law_1405 5 rfl ?_
    refine V_iconst (pc := 1407) C (v := 3) dL_law_1407 rfl ?_
    refine V_iadd (pc := 1408) C dL_law_1408 ?_
    refine V_sld (pc := 1409) C hX hbl (hv 3 (by decide) (by decide)) dL_law_1409 ?_
    refine V_if_eq (pc := 1410) (tgt := 1417) C dL_law_1410 (by decide) (B := False) ⟨fun z => z, fun z => z b0⟩ (fun _ => ?_) (fun z => z.elim)
    refine V_iconst (pc := 1417) C (v := 0) dL_law_1417 rfl ?_
    refine V_callV (pc := 1418) C (ct_X8_join hT hl h) g1261 g1262 g1263 g1264 g64 ⟨by decide, by decide, pl_X8_join⟩ (enc_ne63 (by decide)) (ct_obj hT rfl (by decide)) rfl ⟨by decide, by decide⟩ (rest := []) rfl (le8 rfl) dL_law_1418 (fun v2 S2 h => ?_) (fun k9 S9 hk h => absurd h.1 (by omega))
    obtain ⟨-, e1, e2, h⟩ := h
    refine V_st (st' := [Value.int v2]) rfl ?_
    refine V_istore (pc := 1421) C dL_law_1421 (by decide) rfl ?_
    refine V_aload_n (pc := 1423) C dL_law_1423 rfl 4 rfl ?_
    refine V_callV (pc := 1424) C (ct_X8_thrown hT hl (Qa := fun k3 v3 S3 => k3 = 0 ∧ v3 = S2.1 342 0 ∧ S3 = S2) ⟨rfl, rfl, rfl⟩) g1109 g1110 g1111 g1112 g64 ⟨by decide, by decide, pl_X8_thrown⟩ (enc_ne63 (by decide)) (ct_obj hT rfl (by decide)) rfl ⟨by decide, by decide⟩ (rest := []) rfl (le8 rfl) dL_law_1424 (fun v3 S3 h3 => ?_) (fun k9 S9 hk h3 => absurd h3.1 (by omega))
    obtain ⟨-, e3, e4⟩ := h3
    subst e4
    refine V_st (st' := [Value.int v3]) rfl ?_
    refine V_iload (pc := 1427) C dL_law_1427 1 rfl ?_
    refine V_icmp_eq (pc := 1429) (tgt := 1434) C dL_law_1429 (by decide) ⟨fun z => z, fun z => z⟩ (fun _ => ?_) (fun z => absurd (e3.trans e1) z)
    refine V_iload (pc := 1434) C dL_law_1434 1 rfl ?_
    refine V_if_ne (pc := 1436) (tgt := 1451) C dL_law_1436 (by decide) ⟨fun z => z, fun z => z⟩ (fun _ => ?_) (fun v0 => ?_)
    · skip
      refine V_goto (pc := 1451) (tgt := 2369) C dL_law_1451 (by decide) ?_
      refine V_sub [2, 3, 4, 5, 6] rfl ?_
      exact kk h
    refine V_aload_n (pc := 1439) C dL_law_1439 rfl 5 rfl ?_
    refine V_iconst (pc := 1440) C (v := 0) dL_law_1440 rfl ?_
    refine V_laldO (pc := 1441) C hT dL_law_1441 ?_
    refine V_iload (pc := 1442) C dL_law_1442 0 rfl ?_
    refine V_i2l (pc := 1444) C dL_law_1444 ?_
    refine V_lcmp (pc := 1445) C dL_law_1445 ?_
    refine V_if_eq (pc := 1446) (tgt := 1451) C dL_law_1446 (by decide) ⟨fun z => z, fun z => z⟩ (fun _ => ?_) (fun z => absurd (by rw [e2 v0]; exact cmp_self) z)
    refine V_goto (pc := 1451) (tgt := 2369) C dL_law_1451 (by decide) ?_
    refine V_sub [2, 3, 4, 5, 6] rfl ?_
    exact kk h
  · rw [if_neg b0] at h
    refine V_iconst (pc := 1380) C (v := 1) dL_law_1380 rfl ?_
    refine V_goto (pc := 1381) (tgt := 1385) C dL_law_1381 (by decide) ?_
    refine V_aload_n (pc := 1385) C dL_law_1385 rfl 3 rfl ?_
    refine V_callH (pc := 1386) C (ct_L_join hT hl h) g808 g809 g810 g59 ⟨by decide, by decide, pl_L_join⟩ ⟨by decide, by decide⟩ (rest := []) rfl (le8 rfl) dL_law_1386 (fun v S1 h => ?_) (fun k9 S9 hk h => absurd h.1 (by omega))
    replace h := h.2
    refine V_st (st' := [Value.int v]) rfl ?_
    refine V_istore (pc := 1389) C dL_law_1389 (by decide) rfl ?_
    refine V_aload_n (pc := 1391) C dL_law_1391 rfl 3 rfl ?_
    refine V_aload_n (pc := 1392) C dL_law_1392 rfl 1 rfl ?_
    refine V_iload (pc := 1393) C dL_law_1393 5 rfl ?_
    refine V_iconst (pc := 1395) C (v := 1) dL_law_1395 rfl ?_
    refine V_iadd (pc := 1396) C dL_law_1396 ?_
    refine V_sld (pc := 1397) C hX hbl (hv 1 (by decide) (by decide)) dL_law_1397 ?_
    refine V_aload_n (pc := 1398) C dL_law_1398 rfl 1 rfl ?_
    refine V_iload (pc := 1399) C dL_law_1399 5 rfl ?_
    refine V_iconst (pc := 1401) C (v := 2) dL_law_1401 rfl ?_
    refine V_iadd (pc := 1402) C dL_law_1402 ?_
    refine V_sld (pc := 1403) C hX hbl (hv 2 (by decide) (by decide)) dL_law_1403 ?_
    refine V_aload_n (pc := 1404) C dL_law_1404 rfl 1 rfl ?_
    refine V_iload (pc := 1405) C dL_law_1405 5 rfl ?_
    refine V_iconst (pc := 1407) C (v := 3) dL_law_1407 rfl ?_
    refine V_iadd (pc := 1408) C dL_law_1408 ?_
    refine V_sld (pc := 1409) C hX hbl (hv 3 (by decide) (by decide)) dL_law_1409 ?_
    refine V_if_eq (pc := 1410) (tgt := 1417) C dL_law_1410 (by decide) (A := False) ⟨fun z => b0 z, fun z => z⟩ (fun z => z.elim) (fun _ => ?_)
    refine V_iconst (pc := 1413) C (v := 1) dL_law_1413 rfl ?_
    refine V_goto (pc := 1414) (tgt := 1418) C dL_law_1414 (by decide) ?_
    refine V_callV (pc := 1418) C (ct_X8_join hT hl h) g1261 g1262 g1263 g1264 g64 ⟨by decide, by decide, pl_X8_join⟩ (enc_ne63 (by decide)) (ct_obj hT rfl (by decide)) rfl ⟨by decide, by decide⟩ (rest := []) rfl (le8 rfl) dL_law_1418 (fun v2 S2 h => ?_) (fun k9 S9 hk h => absurd h.1 (by omega))
    obtain ⟨-, e1, e2, h⟩ := h
    refine V_st (st' := [Value.int v2]) rfl ?_
    refine V_istore (pc := 1421) C dL_law_1421 (by decide) rfl ?_
    refine V_aload_n (pc := 1423) C dL_law_1423 rfl 4 rfl ?_
    refine V_callV (pc := 1424) C (ct_X8_thrown hT hl (Qa := fun k3 v3 S3 => k3 = 0 ∧ v3 = S2.1 342 0 ∧ S3 = S2) ⟨rfl, rfl, rfl⟩) g1109 g1110 g1111 g1112 g64 ⟨by decide, by decide, pl_X8_thrown⟩ (enc_ne63 (by decide)) (ct_obj hT rfl (by decide)) rfl ⟨by decide, by decide⟩ (rest := []) rfl (le8 rfl) dL_law_1424 (fun v3 S3 h3 => ?_) (fun k9 S9 hk h3 => absurd h3.1 (by omega))
    obtain ⟨-, e3, e4⟩ := h3
    subst e4
    refine V_st (st' := [Value.int v3]) rfl ?_
    refine V_iload (pc := 1427) C dL_law_1427 1 rfl ?_
    refine V_icmp_eq (pc := 1429) (tgt := 1434) C dL_law_1429 (by decide) ⟨fun z => z, fun z => z⟩ (fun _ => ?_) (fun z => absurd (e3.trans e1) z)
    refine V_iload (pc := 1434) C dL_law_1434 1 rfl ?_
    refine V_if_ne (pc := 1436) (tgt := 1451) C dL_law_1436 (by decide) ⟨fun z => z, fun z => z⟩ (fun _ => ?_) (fun v0 => ?_)
    · skip
      refine V_goto (pc := 1451) (tgt := 2369) C dL_law_1451 (by decide) ?_
      refine V_sub [2, 3, 4, 5, 6] rfl ?_
      exact kk h
    refine V_aload_n (pc := 1439) C dL_law_1439 rfl 5 rfl ?_
    refine V_iconst (pc := 1440) C (v := 0) dL_law_1440 rfl ?_
    refine V_laldO (pc := 1441) C hT dL_law_1441 ?_
    refine V_iload (pc := 1442) C dL_law_1442 0 rfl ?_
    refine V_i2l (pc := 1444) C dL_law_1444 ?_
    refine V_lcmp (pc := 1445) C dL_law_1445 ?_
    refine V_if_eq (pc := 1446) (tgt := 1451) C dL_law_1446 (by decide) ⟨fun z => z, fun z => z⟩ (fun _ => ?_) (fun z => absurd (by rw [e2 v0]; exact cmp_self) z)
    refine V_goto (pc := 1451) (tgt := 2369) C dL_law_1451 (by decide) ?_
    refine V_sub [2, 3, 4, 5, 6] rfl ?_
    exact kk h
theorem case_fits (hT : xT X = tb1) (hl : l.stackTraces = false) (C : Cn X k0 p l R s m meth c cL_law RL 7 15 584) {L : Nat} {xs : Nat → Int32} (hX : va_X (xB X) L xs s (xH X)) (hbl : xB X < (xH X).size) {x4 : Int32} (hv : ∀ j : Int32, 1 ≤ j → j ≤ 6 → vp_in (x4 + j) L) {K : Sg → Prop} (kk : ∀ {T : Sg}, K T → V X p l e R s m args below meth c 7 Q S0 ad0 T 2369 [(0, Value.ref 63), (1, Value.ref (enc 0 0)), (2, Value.ref (enc 12 0)), (3, Value.ref (enc 14 0)), (4, Value.int x4)] []) {S : Sg} (h : w_L_fits (xs (nt (x4 + 1))) (xs (nt (x4 + 2))) (xs (nt (x4 + 3))) S (LQ (fun S Q => w_X8_fits (xs (nt (x4 + 1))) (xs (nt (x4 + 2))) (xs (nt (x4 + 3))) S Q) K)) : V X p l e R s m args below meth c 7 Q S0 ad0 S 1454 [(0, Value.ref 63), (1, Value.ref (enc 0 0)), (2, Value.ref (enc 12 0)), (3, Value.ref (enc 14 0)), (4, Value.int x4)] [] := by
  refine V_aload_n (pc := 1454) C dL_law_1454 rfl 1 rfl ?_
  refine V_aload_n (pc := 1455) C dL_law_1455 rfl 0 rfl ?_
  refine V_iload (pc := 1456) C dL_law_1456 4 rfl ?_
  refine V_iconst (pc := 1458) C (v := 1) dL_law_1458 rfl ?_
  refine V_iadd (pc := 1459) C dL_law_1459 ?_
  refine V_sld (pc := 1460) C hX hbl (hv 1 (by decide) (by decide)) dL_law_1460 ?_
  refine V_aload_n (pc := 1461) C dL_law_1461 rfl 0 rfl ?_
  refine V_iload (pc := 1462) C dL_law_1462 4 rfl ?_
  refine V_iconst (pc := 1464) C (v := 2) dL_law_1464 rfl ?_
  refine V_iadd (pc := 1465) C dL_law_1465 ?_
  refine V_sld (pc := 1466) C hX hbl (hv 2 (by decide) (by decide)) dL_law_1466 ?_
  refine V_aload_n (pc := 1467) C dL_law_1467 rfl 0 rfl ?_
  refine V_iload (pc := 1468) C dL_law_1468 4 rfl ?_
  refine V_iconst (pc := 1470) C (v := 3) dL_law_1470 rfl ?_
  refine V_iadd (pc := 1471) C dL_law_1471 ?_
  refine V_sld (pc := 1472) C hX hbl (hv 3 (by decide) (by decide)) dL_law_1472 ?_
  refine V_aload_n (pc := 1473) C dL_law_1473 rfl 3 rfl ?_
  refine V_callH (pc := 1474) C (ct_L_fits hT hl h) g825 g826 g827 g59 ⟨by decide, by decide, pl_L_fits⟩ ⟨by decide, by decide⟩ (rest := []) rfl (le8 rfl) dL_law_1474 (fun v S1 h => ?_) (fun k9 S9 hk h => absurd h.1 (by omega))
  replace h := h.2
  refine V_st (st' := [Value.int v]) rfl ?_
  refine V_istore (pc := 1477) C dL_law_1477 (by decide) rfl ?_
  refine V_aload_n (pc := 1479) C dL_law_1479 rfl 3 rfl ?_
  refine V_aload_n (pc := 1480) C dL_law_1480 rfl 1 rfl ?_
  refine V_iload (pc := 1481) C dL_law_1481 5 rfl ?_
  refine V_iconst (pc := 1483) C (v := 1) dL_law_1483 rfl ?_
  refine V_iadd (pc := 1484) C dL_law_1484 ?_
  refine V_sld (pc := 1485) C hX hbl (hv 1 (by decide) (by decide)) dL_law_1485 ?_
  refine V_aload_n (pc := 1486) C dL_law_1486 rfl 1 rfl ?_
  refine V_iload (pc := 1487) C dL_law_1487 5 rfl ?_
  refine V_iconst (pc := 1489) C (v := 2) dL_law_1489 rfl ?_
  refine V_iadd (pc := 1490) C dL_law_1490 ?_
  refine V_sld (pc := 1491) C hX hbl (hv 2 (by decide) (by decide)) dL_law_1491 ?_
  refine V_aload_n (pc := 1492) C dL_law_1492 rfl 1 rfl ?_
  refine V_iload (pc := 1493) C dL_law_1493 5 rfl ?_
  refine V_iconst (pc := 1495) C (v := 3) dL_law_1495 rfl ?_
  refine V_iadd (pc := 1496) C dL_law_1496 ?_
  refine V_sld (pc := 1497) C hX hbl (hv 3 (by decide) (by decide)) dL_law_1497 ?_
  refine V_callV (pc := 1498) C (ct_X8_fits hT hl h) g1269 g1270 g1271 g1272 g64 ⟨by decide, by decide, pl_X8_fits⟩ (enc_ne63 (by decide)) (ct_obj hT rfl (by decide)) rfl ⟨by decide, by decide⟩ (rest := []) rfl (le8 rfl) dL_law_1498 (fun v2 S2 h => ?_) (fun k9 S9 hk h => absurd h.1 (by omega))
  obtain ⟨-, e1, e2, h⟩ := h
  refine V_st (st' := [Value.int v2]) rfl ?_
  refine V_istore (pc := 1501) C dL_law_1501 (by decide) rfl ?_
  refine V_aload_n (pc := 1503) C dL_law_1503 rfl 4 rfl ?_
  refine V_callV (pc := 1504) C (ct_X8_thrown hT hl (Qa := fun k3 v3 S3 => k3 = 0 ∧ v3 = S2.1 342 0 ∧ S3 = S2) ⟨rfl, rfl, rfl⟩) g1109 g1110 g1111 g1112 g64 ⟨by decide, by decide, pl_X8_thrown⟩ (enc_ne63 (by decide)) (ct_obj hT rfl (by decide)) rfl ⟨by decide, by decide⟩ (rest := []) rfl (le8 rfl) dL_law_1504 (fun v3 S3 h3 => ?_) (fun k9 S9 hk h3 => absurd h3.1 (by omega))
  obtain ⟨-, e3, e4⟩ := h3
  subst e4
  refine V_st (st' := [Value.int v3]) rfl ?_
  refine V_iload (pc := 1507) C dL_law_1507 1 rfl ?_
  refine V_icmp_eq (pc := 1509) (tgt := 1514) C dL_law_1509 (by decide) ⟨fun z => z, fun z => z⟩ (fun _ => ?_) (fun z => absurd (e3.trans e1) z)
  refine V_iload (pc := 1514) C dL_law_1514 1 rfl ?_
  refine V_if_ne (pc := 1516) (tgt := 1531) C dL_law_1516 (by decide) ⟨fun z => z, fun z => z⟩ (fun _ => ?_) (fun v0 => ?_)
  · skip
    refine V_goto (pc := 1531) (tgt := 2369) C dL_law_1531 (by decide) ?_
    refine V_sub [2, 3, 4, 5, 6] rfl ?_
    exact kk h
  refine V_aload_n (pc := 1519) C dL_law_1519 rfl 5 rfl ?_
  refine V_iconst (pc := 1520) C (v := 0) dL_law_1520 rfl ?_
  refine V_laldO (pc := 1521) C hT dL_law_1521 ?_
  refine V_iload (pc := 1522) C dL_law_1522 0 rfl ?_
  refine V_i2l (pc := 1524) C dL_law_1524 ?_
  refine V_lcmp (pc := 1525) C dL_law_1525 ?_
  refine V_if_eq (pc := 1526) (tgt := 1531) C dL_law_1526 (by decide) ⟨fun z => z, fun z => z⟩ (fun _ => ?_) (fun z => absurd (by rw [e2 v0]; exact cmp_self) z)
  refine V_goto (pc := 1531) (tgt := 2369) C dL_law_1531 (by decide) ?_
  refine V_sub [2, 3, 4, 5, 6] rfl ?_
  exact kk h
theorem case_first (hT : xT X = tb1) (hl : l.stackTraces = false) (C : Cn X k0 p l R s m meth c cL_law RL 7 15 584) {L : Nat} {xs : Nat → Int32} (hX : va_X (xB X) L xs s (xH X)) (hbl : xB X < (xH X).size) {x4 : Int32} (hv : ∀ j : Int32, 1 ≤ j → j ≤ 6 → vp_in (x4 + j) L) {K : Sg → Prop} (kk : ∀ {T : Sg}, K T → V X p l e R s m args below meth c 7 Q S0 ad0 T 2369 [(0, Value.ref 63), (1, Value.ref (enc 0 0)), (2, Value.ref (enc 12 0)), (3, Value.ref (enc 14 0)), (4, Value.int x4)] []) {S : Sg} (h : w_L_first (xs (nt (x4 + 1))) (xs (nt (x4 + 2))) (xs (nt (x4 + 3))) S (LQ (fun S Q => w_X8_first (xs (nt (x4 + 1))) (xs (nt (x4 + 2))) (xs (nt (x4 + 3))) S Q) K)) : V X p l e R s m args below meth c 7 Q S0 ad0 S 1534 [(0, Value.ref 63), (1, Value.ref (enc 0 0)), (2, Value.ref (enc 12 0)), (3, Value.ref (enc 14 0)), (4, Value.int x4)] [] := by
  refine V_aload_n (pc := 1534) C dL_law_1534 rfl 1 rfl ?_
  refine V_aload_n (pc := 1535) C dL_law_1535 rfl 0 rfl ?_
  refine V_iload (pc := 1536) C dL_law_1536 4 rfl ?_
  refine V_iconst (pc := 1538) C (v := 1) dL_law_1538 rfl ?_
  refine V_iadd (pc := 1539) C dL_law_1539 ?_
  refine V_sld (pc := 1540) C hX hbl (hv 1 (by decide) (by decide)) dL_law_1540 ?_
  refine V_aload_n (pc := 1541) C dL_law_1541 rfl 0 rfl ?_
  refine V_iload (pc := 1542) C dL_law_1542 4 rfl ?_
  refine V_iconst (pc := 1544) C (v := 2) dL_law_1544 rfl ?_
  refine V_iadd (pc := 1545) C dL_law_1545 ?_
  refine V_sld (pc := 1546) C hX hbl (hv 2 (by decide) (by decide)) dL_law_1546 ?_
  refine V_aload_n (pc := 1547) C dL_law_1547 rfl 0 rfl ?_
  refine V_iload (pc := 1548) C dL_law_1548 4 rfl ?_
  refine V_iconst (pc := 1550) C (v := 3) dL_law_1550 rfl ?_
  refine V_iadd (pc := 1551) C dL_law_1551 ?_
  refine V_sld (pc := 1552) C hX hbl (hv 3 (by decide) (by decide)) dL_law_1552 ?_
  refine V_aload_n (pc := 1553) C dL_law_1553 rfl 3 rfl ?_
  refine V_callH (pc := 1554) C (ct_L_first hT hl h) g832 g833 g834 g59 ⟨by decide, by decide, pl_L_first⟩ ⟨by decide, by decide⟩ (rest := []) rfl (le8 rfl) dL_law_1554 (fun v S1 h => ?_) (fun k9 S9 hk h => absurd h.1 (by omega))
  replace h := h.2
  refine V_st (st' := [Value.int v]) rfl ?_
  refine V_istore (pc := 1557) C dL_law_1557 (by decide) rfl ?_
  refine V_aload_n (pc := 1559) C dL_law_1559 rfl 3 rfl ?_
  refine V_aload_n (pc := 1560) C dL_law_1560 rfl 1 rfl ?_
  refine V_iload (pc := 1561) C dL_law_1561 5 rfl ?_
  refine V_iconst (pc := 1563) C (v := 1) dL_law_1563 rfl ?_
  refine V_iadd (pc := 1564) C dL_law_1564 ?_
  refine V_sld (pc := 1565) C hX hbl (hv 1 (by decide) (by decide)) dL_law_1565 ?_
  refine V_aload_n (pc := 1566) C dL_law_1566 rfl 1 rfl ?_
  refine V_iload (pc := 1567) C dL_law_1567 5 rfl ?_
  refine V_iconst (pc := 1569) C (v := 2) dL_law_1569 rfl ?_
  refine V_iadd (pc := 1570) C dL_law_1570 ?_
  refine V_sld (pc := 1571) C hX hbl (hv 2 (by decide) (by decide)) dL_law_1571 ?_
  refine V_aload_n (pc := 1572) C dL_law_1572 rfl 1 rfl ?_
  refine V_iload (pc := 1573) C dL_law_1573 5 rfl ?_
  refine V_iconst (pc := 1575) C (v := 3) dL_law_1575 rfl ?_
  refine V_iadd (pc := 1576) C dL_law_1576 ?_
  refine V_sld (pc := 1577) C hX hbl (hv 3 (by decide) (by decide)) dL_law_1577 ?_
  refine V_callV (pc := 1578) C (ct_X8_first hT hl h) g1273 g1274 g1275 g1276 g64 ⟨by decide, by decide, pl_X8_first⟩ (enc_ne63 (by decide)) (ct_obj hT rfl (by decide)) rfl ⟨by decide, by decide⟩ (rest := []) rfl (le8 rfl) dL_law_1578 (fun v2 S2 h => ?_) (fun k9 S9 hk h => absurd h.1 (by omega))
  obtain ⟨-, e1, e2, h⟩ := h
  refine V_st (st' := [Value.int v2]) rfl ?_
  refine V_istore (pc := 1581) C dL_law_1581 (by decide) rfl ?_
  refine V_aload_n (pc := 1583) C dL_law_1583 rfl 4 rfl ?_
  refine V_callV (pc := 1584) C (ct_X8_thrown hT hl (Qa := fun k3 v3 S3 => k3 = 0 ∧ v3 = S2.1 342 0 ∧ S3 = S2) ⟨rfl, rfl, rfl⟩) g1109 g1110 g1111 g1112 g64 ⟨by decide, by decide, pl_X8_thrown⟩ (enc_ne63 (by decide)) (ct_obj hT rfl (by decide)) rfl ⟨by decide, by decide⟩ (rest := []) rfl (le8 rfl) dL_law_1584 (fun v3 S3 h3 => ?_) (fun k9 S9 hk h3 => absurd h3.1 (by omega))
  obtain ⟨-, e3, e4⟩ := h3
  subst e4
  refine V_st (st' := [Value.int v3]) rfl ?_
  refine V_iload (pc := 1587) C dL_law_1587 1 rfl ?_
  refine V_icmp_eq (pc := 1589) (tgt := 1594) C dL_law_1589 (by decide) ⟨fun z => z, fun z => z⟩ (fun _ => ?_) (fun z => absurd (e3.trans e1) z)
  refine V_iload (pc := 1594) C dL_law_1594 1 rfl ?_
  refine V_if_ne (pc := 1596) (tgt := 1611) C dL_law_1596 (by decide) ⟨fun z => z, fun z => z⟩ (fun _ => ?_) (fun v0 => ?_)
  · skip
    refine V_goto (pc := 1611) (tgt := 2369) C dL_law_1611 (by decide) ?_
    refine V_sub [2, 3, 4, 5, 6] rfl ?_
    exact kk h
  refine V_aload_n (pc := 1599) C dL_law_1599 rfl 5 rfl ?_
  refine V_iconst (pc := 1600) C (v := 0) dL_law_1600 rfl ?_
  refine V_laldO (pc := 1601) C hT dL_law_1601 ?_
  refine V_iload (pc := 1602) C dL_law_1602 0 rfl ?_
  refine V_i2l (pc := 1604) C dL_law_1604 ?_
  refine V_lcmp (pc := 1605) C dL_law_1605 ?_
  refine V_if_eq (pc := 1606) (tgt := 1611) C dL_law_1606 (by decide) ⟨fun z => z, fun z => z⟩ (fun _ => ?_) (fun z => absurd (by rw [e2 v0]; exact cmp_self) z)
  refine V_goto (pc := 1611) (tgt := 2369) C dL_law_1611 (by decide) ?_
  refine V_sub [2, 3, 4, 5, 6] rfl ?_
  exact kk h
theorem case_price (hT : xT X = tb1) (hl : l.stackTraces = false) (C : Cn X k0 p l R s m meth c cL_law RL 7 15 584) {L : Nat} {xs : Nat → Int32} (hX : va_X (xB X) L xs s (xH X)) (hbl : xB X < (xH X).size) {x4 : Int32} (hv : ∀ j : Int32, 1 ≤ j → j ≤ 6 → vp_in (x4 + j) L) {K : Sg → Prop} (kk : ∀ {T : Sg}, K T → V X p l e R s m args below meth c 7 Q S0 ad0 T 2369 [(0, Value.ref 63), (1, Value.ref (enc 0 0)), (2, Value.ref (enc 12 0)), (3, Value.ref (enc 14 0)), (4, Value.int x4)] []) {S : Sg} (h : w_L_price (xs (nt (x4 + 1))) (xs (nt (x4 + 2))) S (LQ (fun S Q => w_X8_price (xs (nt (x4 + 1))) (xs (nt (x4 + 2))) S Q) K)) : V X p l e R s m args below meth c 7 Q S0 ad0 S 1614 [(0, Value.ref 63), (1, Value.ref (enc 0 0)), (2, Value.ref (enc 12 0)), (3, Value.ref (enc 14 0)), (4, Value.int x4)] [] := by
  refine V_aload_n (pc := 1614) C dL_law_1614 rfl 1 rfl ?_
  refine V_aload_n (pc := 1615) C dL_law_1615 rfl 0 rfl ?_
  refine V_iload (pc := 1616) C dL_law_1616 4 rfl ?_
  refine V_iconst (pc := 1618) C (v := 1) dL_law_1618 rfl ?_
  refine V_iadd (pc := 1619) C dL_law_1619 ?_
  refine V_sld (pc := 1620) C hX hbl (hv 1 (by decide) (by decide)) dL_law_1620 ?_
  refine V_aload_n (pc := 1621) C dL_law_1621 rfl 0 rfl ?_
  refine V_iload (pc := 1622) C dL_law_1622 4 rfl ?_
  refine V_iconst (pc := 1624) C (v := 2) dL_law_1624 rfl ?_
  refine V_iadd (pc := 1625) C dL_law_1625 ?_
  refine V_sld (pc := 1626) C hX hbl (hv 2 (by decide) (by decide)) dL_law_1626 ?_
  refine V_aload_n (pc := 1627) C dL_law_1627 rfl 3 rfl ?_
  refine V_callH (pc := 1628) C (ct_L_price hT hl h) g844 g845 g846 g59 ⟨by decide, by decide, pl_L_price⟩ ⟨by decide, by decide⟩ (rest := []) rfl (le8 rfl) dL_law_1628 (fun v S1 h => ?_) (fun k9 S9 hk h => absurd h.1 (by omega))
  replace h := h.2
  refine V_st (st' := [Value.int v]) rfl ?_
  refine V_istore (pc := 1631) C dL_law_1631 (by decide) rfl ?_
  refine V_aload_n (pc := 1633) C dL_law_1633 rfl 3 rfl ?_
  refine V_aload_n (pc := 1634) C dL_law_1634 rfl 1 rfl ?_
  refine V_iload (pc := 1635) C dL_law_1635 5 rfl ?_
  refine V_iconst (pc := 1637) C (v := 1) dL_law_1637 rfl ?_
  refine V_iadd (pc := 1638) C dL_law_1638 ?_
  refine V_sld (pc := 1639) C hX hbl (hv 1 (by decide) (by decide)) dL_law_1639 ?_
  refine V_aload_n (pc := 1640) C dL_law_1640 rfl 1 rfl ?_
  refine V_iload (pc := 1641) C dL_law_1641 5 rfl ?_
  refine V_iconst (pc := 1643) C (v := 2) dL_law_1643 rfl ?_
  refine V_iadd (pc := 1644) C dL_law_1644 ?_
  refine V_sld (pc := 1645) C hX hbl (hv 2 (by decide) (by decide)) dL_law_1645 ?_
  refine V_callV (pc := 1646) C (ct_X8_price hT hl h) g1277 g1278 g1279 g1280 g64 ⟨by decide, by decide, pl_X8_price⟩ (enc_ne63 (by decide)) (ct_obj hT rfl (by decide)) rfl ⟨by decide, by decide⟩ (rest := []) rfl (le8 rfl) dL_law_1646 (fun v2 S2 h => ?_) (fun k9 S9 hk h => absurd h.1 (by omega))
  obtain ⟨-, e1, e2, h⟩ := h
  refine V_st (st' := [Value.int v2]) rfl ?_
  refine V_istore (pc := 1649) C dL_law_1649 (by decide) rfl ?_
  refine V_aload_n (pc := 1651) C dL_law_1651 rfl 4 rfl ?_
  refine V_callV (pc := 1652) C (ct_X8_thrown hT hl (Qa := fun k3 v3 S3 => k3 = 0 ∧ v3 = S2.1 342 0 ∧ S3 = S2) ⟨rfl, rfl, rfl⟩) g1109 g1110 g1111 g1112 g64 ⟨by decide, by decide, pl_X8_thrown⟩ (enc_ne63 (by decide)) (ct_obj hT rfl (by decide)) rfl ⟨by decide, by decide⟩ (rest := []) rfl (le8 rfl) dL_law_1652 (fun v3 S3 h3 => ?_) (fun k9 S9 hk h3 => absurd h3.1 (by omega))
  obtain ⟨-, e3, e4⟩ := h3
  subst e4
  refine V_st (st' := [Value.int v3]) rfl ?_
  refine V_iload (pc := 1655) C dL_law_1655 1 rfl ?_
  refine V_icmp_eq (pc := 1657) (tgt := 1662) C dL_law_1657 (by decide) ⟨fun z => z, fun z => z⟩ (fun _ => ?_) (fun z => absurd (e3.trans e1) z)
  refine V_iload (pc := 1662) C dL_law_1662 1 rfl ?_
  refine V_if_ne (pc := 1664) (tgt := 1679) C dL_law_1664 (by decide) ⟨fun z => z, fun z => z⟩ (fun _ => ?_) (fun v0 => ?_)
  · skip
    refine V_goto (pc := 1679) (tgt := 2369) C dL_law_1679 (by decide) ?_
    refine V_sub [2, 3, 4, 5, 6] rfl ?_
    exact kk h
  refine V_aload_n (pc := 1667) C dL_law_1667 rfl 5 rfl ?_
  refine V_iconst (pc := 1668) C (v := 0) dL_law_1668 rfl ?_
  refine V_laldO (pc := 1669) C hT dL_law_1669 ?_
  refine V_iload (pc := 1670) C dL_law_1670 0 rfl ?_
  refine V_i2l (pc := 1672) C dL_law_1672 ?_
  refine V_lcmp (pc := 1673) C dL_law_1673 ?_
  refine V_if_eq (pc := 1674) (tgt := 1679) C dL_law_1674 (by decide) ⟨fun z => z, fun z => z⟩ (fun _ => ?_) (fun z => absurd (by rw [e2 v0]; exact cmp_self) z)
  refine V_goto (pc := 1679) (tgt := 2369) C dL_law_1679 (by decide) ?_
  refine V_sub [2, 3, 4, 5, 6] rfl ?_
  exact kk h
theorem case_seat (hT : xT X = tb1) (hl : l.stackTraces = false) (C : Cn X k0 p l R s m meth c cL_law RL 7 15 584) {L : Nat} {xs : Nat → Int32} (hX : va_X (xB X) L xs s (xH X)) (hbl : xB X < (xH X).size) {x4 : Int32} (hv : ∀ j : Int32, 1 ≤ j → j ≤ 6 → vp_in (x4 + j) L) {K : Sg → Prop} (kk : ∀ {T : Sg}, K T → V X p l e R s m args below meth c 7 Q S0 ad0 T 2369 [(0, Value.ref 63), (1, Value.ref (enc 0 0)), (2, Value.ref (enc 12 0)), (3, Value.ref (enc 14 0)), (4, Value.int x4)] []) {S : Sg} (h : w_L_seat (xs (nt (x4 + 1))) (xs (nt (x4 + 2))) (xs (nt (x4 + 3))) S (LQ (fun S Q => w_X8_seat (xs (nt (x4 + 1))) (xs (nt (x4 + 2))) (xs (nt (x4 + 3))) S Q) K)) : V X p l e R s m args below meth c 7 Q S0 ad0 S 1682 [(0, Value.ref 63), (1, Value.ref (enc 0 0)), (2, Value.ref (enc 12 0)), (3, Value.ref (enc 14 0)), (4, Value.int x4)] [] := by
  refine V_aload_n (pc := 1682) C dL_law_1682 rfl 1 rfl ?_
  refine V_aload_n (pc := 1683) C dL_law_1683 rfl 0 rfl ?_
  refine V_iload (pc := 1684) C dL_law_1684 4 rfl ?_
  refine V_iconst (pc := 1686) C (v := 1) dL_law_1686 rfl ?_
  refine V_iadd (pc := 1687) C dL_law_1687 ?_
  refine V_sld (pc := 1688) C hX hbl (hv 1 (by decide) (by decide)) dL_law_1688 ?_
  refine V_aload_n (pc := 1689) C dL_law_1689 rfl 0 rfl ?_
  refine V_iload (pc := 1690) C dL_law_1690 4 rfl ?_
  refine V_iconst (pc := 1692) C (v := 2) dL_law_1692 rfl ?_
  refine V_iadd (pc := 1693) C dL_law_1693 ?_
  refine V_sld (pc := 1694) C hX hbl (hv 2 (by decide) (by decide)) dL_law_1694 ?_
  refine V_aload_n (pc := 1695) C dL_law_1695 rfl 0 rfl ?_
  refine V_iload (pc := 1696) C dL_law_1696 4 rfl ?_
  refine V_iconst (pc := 1698) C (v := 3) dL_law_1698 rfl ?_
  refine V_iadd (pc := 1699) C dL_law_1699 ?_
  refine V_sld (pc := 1700) C hX hbl (hv 3 (by decide) (by decide)) dL_law_1700 ?_
  refine V_aload_n (pc := 1701) C dL_law_1701 rfl 3 rfl ?_
  refine V_callH (pc := 1702) C (ct_L_seat hT hl h) g851 g852 g853 g59 ⟨by decide, by decide, pl_L_seat⟩ ⟨by decide, by decide⟩ (rest := []) rfl (le8 rfl) dL_law_1702 (fun v S1 h => ?_) (fun k9 S9 hk h => absurd h.1 (by omega))
  replace h := h.2
  refine V_st (st' := [Value.int v]) rfl ?_
  refine V_istore (pc := 1705) C dL_law_1705 (by decide) rfl ?_
  refine V_aload_n (pc := 1707) C dL_law_1707 rfl 3 rfl ?_
  refine V_aload_n (pc := 1708) C dL_law_1708 rfl 1 rfl ?_
  refine V_iload (pc := 1709) C dL_law_1709 5 rfl ?_
  refine V_iconst (pc := 1711) C (v := 1) dL_law_1711 rfl ?_
  refine V_iadd (pc := 1712) C dL_law_1712 ?_
  refine V_sld (pc := 1713) C hX hbl (hv 1 (by decide) (by decide)) dL_law_1713 ?_
  refine V_aload_n (pc := 1714) C dL_law_1714 rfl 1 rfl ?_
  refine V_iload (pc := 1715) C dL_law_1715 5 rfl ?_
  refine V_iconst (pc := 1717) C (v := 2) dL_law_1717 rfl ?_
  refine V_iadd (pc := 1718) C dL_law_1718 ?_
  refine V_sld (pc := 1719) C hX hbl (hv 2 (by decide) (by decide)) dL_law_1719 ?_
  refine V_aload_n (pc := 1720) C dL_law_1720 rfl 1 rfl ?_
  refine V_iload (pc := 1721) C dL_law_1721 5 rfl ?_
  refine V_iconst (pc := 1723) C (v := 3) dL_law_1723 rfl ?_
  refine V_iadd (pc := 1724) C dL_law_1724 ?_
  refine V_sld (pc := 1725) C hX hbl (hv 3 (by decide) (by decide)) dL_law_1725 ?_
  refine V_callV (pc := 1726) C (ct_X8_seat hT hl h) g1281 g1282 g1283 g1284 g64 ⟨by decide, by decide, pl_X8_seat⟩ (enc_ne63 (by decide)) (ct_obj hT rfl (by decide)) rfl ⟨by decide, by decide⟩ (rest := []) rfl (le8 rfl) dL_law_1726 (fun v2 S2 h => ?_) (fun k9 S9 hk h => absurd h.1 (by omega))
  obtain ⟨-, e1, e2, h⟩ := h
  refine V_st (st' := [Value.int v2]) rfl ?_
  refine V_istore (pc := 1729) C dL_law_1729 (by decide) rfl ?_
  refine V_aload_n (pc := 1731) C dL_law_1731 rfl 4 rfl ?_
  refine V_callV (pc := 1732) C (ct_X8_thrown hT hl (Qa := fun k3 v3 S3 => k3 = 0 ∧ v3 = S2.1 342 0 ∧ S3 = S2) ⟨rfl, rfl, rfl⟩) g1109 g1110 g1111 g1112 g64 ⟨by decide, by decide, pl_X8_thrown⟩ (enc_ne63 (by decide)) (ct_obj hT rfl (by decide)) rfl ⟨by decide, by decide⟩ (rest := []) rfl (le8 rfl) dL_law_1732 (fun v3 S3 h3 => ?_) (fun k9 S9 hk h3 => absurd h3.1 (by omega))
  obtain ⟨-, e3, e4⟩ := h3
  subst e4
  refine V_st (st' := [Value.int v3]) rfl ?_
  refine V_iload (pc := 1735) C dL_law_1735 1 rfl ?_
  refine V_icmp_eq (pc := 1737) (tgt := 1742) C dL_law_1737 (by decide) ⟨fun z => z, fun z => z⟩ (fun _ => ?_) (fun z => absurd (e3.trans e1) z)
  refine V_iload (pc := 1742) C dL_law_1742 1 rfl ?_
  refine V_if_ne (pc := 1744) (tgt := 1759) C dL_law_1744 (by decide) ⟨fun z => z, fun z => z⟩ (fun _ => ?_) (fun v0 => ?_)
  · skip
    refine V_goto (pc := 1759) (tgt := 2369) C dL_law_1759 (by decide) ?_
    refine V_sub [2, 3, 4, 5, 6] rfl ?_
    exact kk h
  refine V_aload_n (pc := 1747) C dL_law_1747 rfl 5 rfl ?_
  refine V_iconst (pc := 1748) C (v := 0) dL_law_1748 rfl ?_
  refine V_laldO (pc := 1749) C hT dL_law_1749 ?_
  refine V_iload (pc := 1750) C dL_law_1750 0 rfl ?_
  refine V_i2l (pc := 1752) C dL_law_1752 ?_
  refine V_lcmp (pc := 1753) C dL_law_1753 ?_
  refine V_if_eq (pc := 1754) (tgt := 1759) C dL_law_1754 (by decide) ⟨fun z => z, fun z => z⟩ (fun _ => ?_) (fun z => absurd (by rw [e2 v0]; exact cmp_self) z)
  refine V_goto (pc := 1759) (tgt := 2369) C dL_law_1759 (by decide) ?_
  refine V_sub [2, 3, 4, 5, 6] rfl ?_
  exact kk h
theorem case_ofShow (hT : xT X = tb1) (hl : l.stackTraces = false) (C : Cn X k0 p l R s m meth c cL_law RL 7 15 584) {L : Nat} {xs : Nat → Int32} (hX : va_X (xB X) L xs s (xH X)) (hbl : xB X < (xH X).size) {x4 : Int32} (hv : ∀ j : Int32, 1 ≤ j → j ≤ 6 → vp_in (x4 + j) L) {K : Sg → Prop} (kk : ∀ {T : Sg}, K T → V X p l e R s m args below meth c 7 Q S0 ad0 T 2369 [(0, Value.ref 63), (1, Value.ref (enc 0 0)), (2, Value.ref (enc 12 0)), (3, Value.ref (enc 14 0)), (4, Value.int x4)] []) {S : Sg} (h : w_L_ofShow (xs (nt (x4 + 1))) (xs (nt (x4 + 2))) S (LQ (fun S Q => w_X8_ofShow (xs (nt (x4 + 1))) (xs (nt (x4 + 2))) S Q) K)) : V X p l e R s m args below meth c 7 Q S0 ad0 S 1762 [(0, Value.ref 63), (1, Value.ref (enc 0 0)), (2, Value.ref (enc 12 0)), (3, Value.ref (enc 14 0)), (4, Value.int x4)] [] := by
  refine V_aload_n (pc := 1762) C dL_law_1762 rfl 1 rfl ?_
  refine V_aload_n (pc := 1763) C dL_law_1763 rfl 0 rfl ?_
  refine V_iload (pc := 1764) C dL_law_1764 4 rfl ?_
  refine V_iconst (pc := 1766) C (v := 1) dL_law_1766 rfl ?_
  refine V_iadd (pc := 1767) C dL_law_1767 ?_
  refine V_sld (pc := 1768) C hX hbl (hv 1 (by decide) (by decide)) dL_law_1768 ?_
  refine V_aload_n (pc := 1769) C dL_law_1769 rfl 0 rfl ?_
  refine V_iload (pc := 1770) C dL_law_1770 4 rfl ?_
  refine V_iconst (pc := 1772) C (v := 2) dL_law_1772 rfl ?_
  refine V_iadd (pc := 1773) C dL_law_1773 ?_
  refine V_sld (pc := 1774) C hX hbl (hv 2 (by decide) (by decide)) dL_law_1774 ?_
  refine V_aload_n (pc := 1775) C dL_law_1775 rfl 3 rfl ?_
  refine V_callH (pc := 1776) C (ct_L_ofShow hT hl h) g858 g859 g860 g59 ⟨by decide, by decide, pl_L_ofShow⟩ ⟨by decide, by decide⟩ (rest := []) rfl (le8 rfl) dL_law_1776 (fun v S1 h => ?_) (fun k9 S9 hk h => absurd h.1 (by omega))
  replace h := h.2
  refine V_st (st' := [Value.int v]) rfl ?_
  refine V_istore (pc := 1779) C dL_law_1779 (by decide) rfl ?_
  refine V_aload_n (pc := 1781) C dL_law_1781 rfl 3 rfl ?_
  refine V_aload_n (pc := 1782) C dL_law_1782 rfl 1 rfl ?_
  refine V_iload (pc := 1783) C dL_law_1783 5 rfl ?_
  refine V_iconst (pc := 1785) C (v := 1) dL_law_1785 rfl ?_
  refine V_iadd (pc := 1786) C dL_law_1786 ?_
  refine V_sld (pc := 1787) C hX hbl (hv 1 (by decide) (by decide)) dL_law_1787 ?_
  refine V_aload_n (pc := 1788) C dL_law_1788 rfl 1 rfl ?_
  refine V_iload (pc := 1789) C dL_law_1789 5 rfl ?_
  refine V_iconst (pc := 1791) C (v := 2) dL_law_1791 rfl ?_
  refine V_iadd (pc := 1792) C dL_law_1792 ?_
  refine V_sld (pc := 1793) C hX hbl (hv 2 (by decide) (by decide)) dL_law_1793 ?_
  refine V_callV (pc := 1794) C (ct_X8_ofShow hT hl h) g1285 g1286 g1287 g1288 g64 ⟨by decide, by decide, pl_X8_ofShow⟩ (enc_ne63 (by decide)) (ct_obj hT rfl (by decide)) rfl ⟨by decide, by decide⟩ (rest := []) rfl (le8 rfl) dL_law_1794 (fun v2 S2 h => ?_) (fun k9 S9 hk h => absurd h.1 (by omega))
  obtain ⟨-, e1, e2, h⟩ := h
  refine V_st (st' := [Value.int v2]) rfl ?_
  refine V_istore (pc := 1797) C dL_law_1797 (by decide) rfl ?_
  refine V_aload_n (pc := 1799) C dL_law_1799 rfl 4 rfl ?_
  refine V_callV (pc := 1800) C (ct_X8_thrown hT hl (Qa := fun k3 v3 S3 => k3 = 0 ∧ v3 = S2.1 342 0 ∧ S3 = S2) ⟨rfl, rfl, rfl⟩) g1109 g1110 g1111 g1112 g64 ⟨by decide, by decide, pl_X8_thrown⟩ (enc_ne63 (by decide)) (ct_obj hT rfl (by decide)) rfl ⟨by decide, by decide⟩ (rest := []) rfl (le8 rfl) dL_law_1800 (fun v3 S3 h3 => ?_) (fun k9 S9 hk h3 => absurd h3.1 (by omega))
  obtain ⟨-, e3, e4⟩ := h3
  subst e4
  refine V_st (st' := [Value.int v3]) rfl ?_
  refine V_iload (pc := 1803) C dL_law_1803 1 rfl ?_
  refine V_icmp_eq (pc := 1805) (tgt := 1810) C dL_law_1805 (by decide) ⟨fun z => z, fun z => z⟩ (fun _ => ?_) (fun z => absurd (e3.trans e1) z)
  refine V_iload (pc := 1810) C dL_law_1810 1 rfl ?_
  refine V_if_ne (pc := 1812) (tgt := 1827) C dL_law_1812 (by decide) ⟨fun z => z, fun z => z⟩ (fun _ => ?_) (fun v0 => ?_)
  · skip
    refine V_goto (pc := 1827) (tgt := 2369) C dL_law_1827 (by decide) ?_
    refine V_sub [2, 3, 4, 5, 6] rfl ?_
    exact kk h
  refine V_aload_n (pc := 1815) C dL_law_1815 rfl 5 rfl ?_
  refine V_iconst (pc := 1816) C (v := 0) dL_law_1816 rfl ?_
  refine V_laldO (pc := 1817) C hT dL_law_1817 ?_
  refine V_iload (pc := 1818) C dL_law_1818 0 rfl ?_
  refine V_i2l (pc := 1820) C dL_law_1820 ?_
  refine V_lcmp (pc := 1821) C dL_law_1821 ?_
  refine V_if_eq (pc := 1822) (tgt := 1827) C dL_law_1822 (by decide) ⟨fun z => z, fun z => z⟩ (fun _ => ?_) (fun z => absurd (by rw [e2 v0]; exact cmp_self) z)
  refine V_goto (pc := 1827) (tgt := 2369) C dL_law_1827 (by decide) ?_
  refine V_sub [2, 3, 4, 5, 6] rfl ?_
  exact kk h
theorem case_ofTicket (hT : xT X = tb1) (hl : l.stackTraces = false) (C : Cn X k0 p l R s m meth c cL_law RL 7 15 584) {L : Nat} {xs : Nat → Int32} (hX : va_X (xB X) L xs s (xH X)) (hbl : xB X < (xH X).size) {x4 : Int32} (hv : ∀ j : Int32, 1 ≤ j → j ≤ 6 → vp_in (x4 + j) L) {K : Sg → Prop} (kk : ∀ {T : Sg}, K T → V X p l e R s m args below meth c 7 Q S0 ad0 T 2369 [(0, Value.ref 63), (1, Value.ref (enc 0 0)), (2, Value.ref (enc 12 0)), (3, Value.ref (enc 14 0)), (4, Value.int x4)] []) {S : Sg} (h : w_L_ofTicket (xs (nt (x4 + 1))) (xs (nt (x4 + 2))) S (LQ (fun S Q => w_X8_ofTicket (xs (nt (x4 + 1))) (xs (nt (x4 + 2))) S Q) K)) : V X p l e R s m args below meth c 7 Q S0 ad0 S 1830 [(0, Value.ref 63), (1, Value.ref (enc 0 0)), (2, Value.ref (enc 12 0)), (3, Value.ref (enc 14 0)), (4, Value.int x4)] [] := by
  refine V_aload_n (pc := 1830) C dL_law_1830 rfl 1 rfl ?_
  refine V_aload_n (pc := 1831) C dL_law_1831 rfl 0 rfl ?_
  refine V_iload (pc := 1832) C dL_law_1832 4 rfl ?_
  refine V_iconst (pc := 1834) C (v := 1) dL_law_1834 rfl ?_
  refine V_iadd (pc := 1835) C dL_law_1835 ?_
  refine V_sld (pc := 1836) C hX hbl (hv 1 (by decide) (by decide)) dL_law_1836 ?_
  refine V_aload_n (pc := 1837) C dL_law_1837 rfl 0 rfl ?_
  refine V_iload (pc := 1838) C dL_law_1838 4 rfl ?_
  refine V_iconst (pc := 1840) C (v := 2) dL_law_1840 rfl ?_
  refine V_iadd (pc := 1841) C dL_law_1841 ?_
  refine V_sld (pc := 1842) C hX hbl (hv 2 (by decide) (by decide)) dL_law_1842 ?_
  refine V_aload_n (pc := 1843) C dL_law_1843 rfl 3 rfl ?_
  refine V_callH (pc := 1844) C (ct_L_ofTicket hT hl h) g876 g877 g878 g59 ⟨by decide, by decide, pl_L_ofTicket⟩ ⟨by decide, by decide⟩ (rest := []) rfl (le8 rfl) dL_law_1844 (fun v S1 h => ?_) (fun k9 S9 hk h => absurd h.1 (by omega))
  replace h := h.2
  refine V_st (st' := [Value.int v]) rfl ?_
  refine V_istore (pc := 1847) C dL_law_1847 (by decide) rfl ?_
  refine V_aload_n (pc := 1849) C dL_law_1849 rfl 3 rfl ?_
  refine V_aload_n (pc := 1850) C dL_law_1850 rfl 1 rfl ?_
  refine V_iload (pc := 1851) C dL_law_1851 5 rfl ?_
  refine V_iconst (pc := 1853) C (v := 1) dL_law_1853 rfl ?_
  refine V_iadd (pc := 1854) C dL_law_1854 ?_
  refine V_sld (pc := 1855) C hX hbl (hv 1 (by decide) (by decide)) dL_law_1855 ?_
  refine V_aload_n (pc := 1856) C dL_law_1856 rfl 1 rfl ?_
  refine V_iload (pc := 1857) C dL_law_1857 5 rfl ?_
  refine V_iconst (pc := 1859) C (v := 2) dL_law_1859 rfl ?_
  refine V_iadd (pc := 1860) C dL_law_1860 ?_
  refine V_sld (pc := 1861) C hX hbl (hv 2 (by decide) (by decide)) dL_law_1861 ?_
  refine V_callV (pc := 1862) C (ct_X8_ofTicket hT hl h) g1301 g1302 g1303 g1304 g64 ⟨by decide, by decide, pl_X8_ofTicket⟩ (enc_ne63 (by decide)) (ct_obj hT rfl (by decide)) rfl ⟨by decide, by decide⟩ (rest := []) rfl (le8 rfl) dL_law_1862 (fun v2 S2 h => ?_) (fun k9 S9 hk h => absurd h.1 (by omega))
  obtain ⟨-, e1, e2, h⟩ := h
  refine V_st (st' := [Value.int v2]) rfl ?_
  refine V_istore (pc := 1865) C dL_law_1865 (by decide) rfl ?_
  refine V_aload_n (pc := 1867) C dL_law_1867 rfl 4 rfl ?_
  refine V_callV (pc := 1868) C (ct_X8_thrown hT hl (Qa := fun k3 v3 S3 => k3 = 0 ∧ v3 = S2.1 342 0 ∧ S3 = S2) ⟨rfl, rfl, rfl⟩) g1109 g1110 g1111 g1112 g64 ⟨by decide, by decide, pl_X8_thrown⟩ (enc_ne63 (by decide)) (ct_obj hT rfl (by decide)) rfl ⟨by decide, by decide⟩ (rest := []) rfl (le8 rfl) dL_law_1868 (fun v3 S3 h3 => ?_) (fun k9 S9 hk h3 => absurd h3.1 (by omega))
  obtain ⟨-, e3, e4⟩ := h3
  subst e4
  refine V_st (st' := [Value.int v3]) rfl ?_
  refine V_iload (pc := 1871) C dL_law_1871 1 rfl ?_
  refine V_icmp_eq (pc := 1873) (tgt := 1878) C dL_law_1873 (by decide) ⟨fun z => z, fun z => z⟩ (fun _ => ?_) (fun z => absurd (e3.trans e1) z)
  refine V_iload (pc := 1878) C dL_law_1878 1 rfl ?_
  refine V_if_ne (pc := 1880) (tgt := 1895) C dL_law_1880 (by decide) ⟨fun z => z, fun z => z⟩ (fun _ => ?_) (fun v0 => ?_)
  · skip
    refine V_goto (pc := 1895) (tgt := 2369) C dL_law_1895 (by decide) ?_
    refine V_sub [2, 3, 4, 5, 6] rfl ?_
    exact kk h
  refine V_aload_n (pc := 1883) C dL_law_1883 rfl 5 rfl ?_
  refine V_iconst (pc := 1884) C (v := 0) dL_law_1884 rfl ?_
  refine V_laldO (pc := 1885) C hT dL_law_1885 ?_
  refine V_iload (pc := 1886) C dL_law_1886 0 rfl ?_
  refine V_i2l (pc := 1888) C dL_law_1888 ?_
  refine V_lcmp (pc := 1889) C dL_law_1889 ?_
  refine V_if_eq (pc := 1890) (tgt := 1895) C dL_law_1890 (by decide) ⟨fun z => z, fun z => z⟩ (fun _ => ?_) (fun z => absurd (by rw [e2 v0]; exact cmp_self) z)
  refine V_goto (pc := 1895) (tgt := 2369) C dL_law_1895 (by decide) ?_
  refine V_sub [2, 3, 4, 5, 6] rfl ?_
  exact kk h
theorem case_ofHall (hT : xT X = tb1) (hl : l.stackTraces = false) (C : Cn X k0 p l R s m meth c cL_law RL 7 15 584) {L : Nat} {xs : Nat → Int32} (hX : va_X (xB X) L xs s (xH X)) (hbl : xB X < (xH X).size) {x4 : Int32} (hv : ∀ j : Int32, 1 ≤ j → j ≤ 6 → vp_in (x4 + j) L) {K : Sg → Prop} (kk : ∀ {T : Sg}, K T → V X p l e R s m args below meth c 7 Q S0 ad0 T 2369 [(0, Value.ref 63), (1, Value.ref (enc 0 0)), (2, Value.ref (enc 12 0)), (3, Value.ref (enc 14 0)), (4, Value.int x4)] []) {S : Sg} (h : w_L_ofHall (xs (nt (x4 + 1))) (xs (nt (x4 + 2))) S (LQ (fun S Q => w_X8_ofHall (xs (nt (x4 + 1))) (xs (nt (x4 + 2))) S Q) K)) : V X p l e R s m args below meth c 7 Q S0 ad0 S 1898 [(0, Value.ref 63), (1, Value.ref (enc 0 0)), (2, Value.ref (enc 12 0)), (3, Value.ref (enc 14 0)), (4, Value.int x4)] [] := by
  refine V_aload_n (pc := 1898) C dL_law_1898 rfl 1 rfl ?_
  refine V_aload_n (pc := 1899) C dL_law_1899 rfl 0 rfl ?_
  refine V_iload (pc := 1900) C dL_law_1900 4 rfl ?_
  refine V_iconst (pc := 1902) C (v := 1) dL_law_1902 rfl ?_
  refine V_iadd (pc := 1903) C dL_law_1903 ?_
  refine V_sld (pc := 1904) C hX hbl (hv 1 (by decide) (by decide)) dL_law_1904 ?_
  refine V_aload_n (pc := 1905) C dL_law_1905 rfl 0 rfl ?_
  refine V_iload (pc := 1906) C dL_law_1906 4 rfl ?_
  refine V_iconst (pc := 1908) C (v := 2) dL_law_1908 rfl ?_
  refine V_iadd (pc := 1909) C dL_law_1909 ?_
  refine V_sld (pc := 1910) C hX hbl (hv 2 (by decide) (by decide)) dL_law_1910 ?_
  refine V_aload_n (pc := 1911) C dL_law_1911 rfl 3 rfl ?_
  refine V_callH (pc := 1912) C (ct_L_ofHall hT hl h) g892 g893 g894 g59 ⟨by decide, by decide, pl_L_ofHall⟩ ⟨by decide, by decide⟩ (rest := []) rfl (le8 rfl) dL_law_1912 (fun v S1 h => ?_) (fun k9 S9 hk h => absurd h.1 (by omega))
  replace h := h.2
  refine V_st (st' := [Value.int v]) rfl ?_
  refine V_istore (pc := 1915) C dL_law_1915 (by decide) rfl ?_
  refine V_aload_n (pc := 1917) C dL_law_1917 rfl 3 rfl ?_
  refine V_aload_n (pc := 1918) C dL_law_1918 rfl 1 rfl ?_
  refine V_iload (pc := 1919) C dL_law_1919 5 rfl ?_
  refine V_iconst (pc := 1921) C (v := 1) dL_law_1921 rfl ?_
  refine V_iadd (pc := 1922) C dL_law_1922 ?_
  refine V_sld (pc := 1923) C hX hbl (hv 1 (by decide) (by decide)) dL_law_1923 ?_
  refine V_aload_n (pc := 1924) C dL_law_1924 rfl 1 rfl ?_
  refine V_iload (pc := 1925) C dL_law_1925 5 rfl ?_
  refine V_iconst (pc := 1927) C (v := 2) dL_law_1927 rfl ?_
  refine V_iadd (pc := 1928) C dL_law_1928 ?_
  refine V_sld (pc := 1929) C hX hbl (hv 2 (by decide) (by decide)) dL_law_1929 ?_
  refine V_callV (pc := 1930) C (ct_X8_ofHall hT hl h) g1305 g1306 g1307 g1308 g64 ⟨by decide, by decide, pl_X8_ofHall⟩ (enc_ne63 (by decide)) (ct_obj hT rfl (by decide)) rfl ⟨by decide, by decide⟩ (rest := []) rfl (le8 rfl) dL_law_1930 (fun v2 S2 h => ?_) (fun k9 S9 hk h => absurd h.1 (by omega))
  obtain ⟨-, e1, e2, h⟩ := h
  refine V_st (st' := [Value.int v2]) rfl ?_
  refine V_istore (pc := 1933) C dL_law_1933 (by decide) rfl ?_
  refine V_aload_n (pc := 1935) C dL_law_1935 rfl 4 rfl ?_
  refine V_callV (pc := 1936) C (ct_X8_thrown hT hl (Qa := fun k3 v3 S3 => k3 = 0 ∧ v3 = S2.1 342 0 ∧ S3 = S2) ⟨rfl, rfl, rfl⟩) g1109 g1110 g1111 g1112 g64 ⟨by decide, by decide, pl_X8_thrown⟩ (enc_ne63 (by decide)) (ct_obj hT rfl (by decide)) rfl ⟨by decide, by decide⟩ (rest := []) rfl (le8 rfl) dL_law_1936 (fun v3 S3 h3 => ?_) (fun k9 S9 hk h3 => absurd h3.1 (by omega))
  obtain ⟨-, e3, e4⟩ := h3
  subst e4
  refine V_st (st' := [Value.int v3]) rfl ?_
  refine V_iload (pc := 1939) C dL_law_1939 1 rfl ?_
  refine V_icmp_eq (pc := 1941) (tgt := 1946) C dL_law_1941 (by decide) ⟨fun z => z, fun z => z⟩ (fun _ => ?_) (fun z => absurd (e3.trans e1) z)
  refine V_iload (pc := 1946) C dL_law_1946 1 rfl ?_
  refine V_if_ne (pc := 1948) (tgt := 1963) C dL_law_1948 (by decide) ⟨fun z => z, fun z => z⟩ (fun _ => ?_) (fun v0 => ?_)
  · skip
    refine V_goto (pc := 1963) (tgt := 2369) C dL_law_1963 (by decide) ?_
    refine V_sub [2, 3, 4, 5, 6] rfl ?_
    exact kk h
  refine V_aload_n (pc := 1951) C dL_law_1951 rfl 5 rfl ?_
  refine V_iconst (pc := 1952) C (v := 0) dL_law_1952 rfl ?_
  refine V_laldO (pc := 1953) C hT dL_law_1953 ?_
  refine V_iload (pc := 1954) C dL_law_1954 0 rfl ?_
  refine V_i2l (pc := 1956) C dL_law_1956 ?_
  refine V_lcmp (pc := 1957) C dL_law_1957 ?_
  refine V_if_eq (pc := 1958) (tgt := 1963) C dL_law_1958 (by decide) ⟨fun z => z, fun z => z⟩ (fun _ => ?_) (fun z => absurd (by rw [e2 v0]; exact cmp_self) z)
  refine V_goto (pc := 1963) (tgt := 2369) C dL_law_1963 (by decide) ?_
  refine V_sub [2, 3, 4, 5, 6] rfl ?_
  exact kk h
theorem case_takings (hT : xT X = tb1) (hl : l.stackTraces = false) (C : Cn X k0 p l R s m meth c cL_law RL 7 15 584) {L : Nat} {xs : Nat → Int32} (hX : va_X (xB X) L xs s (xH X)) (hbl : xB X < (xH X).size) {x4 : Int32} (hv : ∀ j : Int32, 1 ≤ j → j ≤ 6 → vp_in (x4 + j) L) {K : Sg → Prop} (kk : ∀ {T : Sg}, K T → V X p l e R s m args below meth c 7 Q S0 ad0 T 2369 [(0, Value.ref 63), (1, Value.ref (enc 0 0)), (2, Value.ref (enc 12 0)), (3, Value.ref (enc 14 0)), (4, Value.int x4)] []) {S : Sg} (h : w_L_takings (xs (nt (x4 + 1))) (xs (nt (x4 + 2))) S (LQ (fun S Q => w_X8_takings (xs (nt (x4 + 1))) (xs (nt (x4 + 2))) S Q) K)) : V X p l e R s m args below meth c 7 Q S0 ad0 S 1966 [(0, Value.ref 63), (1, Value.ref (enc 0 0)), (2, Value.ref (enc 12 0)), (3, Value.ref (enc 14 0)), (4, Value.int x4)] [] := by
  refine V_aload_n (pc := 1966) C dL_law_1966 rfl 1 rfl ?_
  refine V_aload_n (pc := 1967) C dL_law_1967 rfl 0 rfl ?_
  refine V_iload (pc := 1968) C dL_law_1968 4 rfl ?_
  refine V_iconst (pc := 1970) C (v := 1) dL_law_1970 rfl ?_
  refine V_iadd (pc := 1971) C dL_law_1971 ?_
  refine V_sld (pc := 1972) C hX hbl (hv 1 (by decide) (by decide)) dL_law_1972 ?_
  refine V_aload_n (pc := 1973) C dL_law_1973 rfl 0 rfl ?_
  refine V_iload (pc := 1974) C dL_law_1974 4 rfl ?_
  refine V_iconst (pc := 1976) C (v := 2) dL_law_1976 rfl ?_
  refine V_iadd (pc := 1977) C dL_law_1977 ?_
  refine V_sld (pc := 1978) C hX hbl (hv 2 (by decide) (by decide)) dL_law_1978 ?_
  refine V_aload_n (pc := 1979) C dL_law_1979 rfl 3 rfl ?_
  refine V_callH (pc := 1980) C (ct_L_takings hT hl h) g903 g904 g905 g59 ⟨by decide, by decide, pl_L_takings⟩ ⟨by decide, by decide⟩ (rest := []) rfl (le8 rfl) dL_law_1980 (fun v S1 h => ?_) (fun k9 S9 hk h => absurd h.1 (by omega))
  replace h := h.2
  refine V_st (st' := [Value.int v]) rfl ?_
  refine V_istore (pc := 1983) C dL_law_1983 (by decide) rfl ?_
  refine V_aload_n (pc := 1985) C dL_law_1985 rfl 3 rfl ?_
  refine V_aload_n (pc := 1986) C dL_law_1986 rfl 1 rfl ?_
  refine V_iload (pc := 1987) C dL_law_1987 5 rfl ?_
  refine V_iconst (pc := 1989) C (v := 1) dL_law_1989 rfl ?_
  refine V_iadd (pc := 1990) C dL_law_1990 ?_
  refine V_sld (pc := 1991) C hX hbl (hv 1 (by decide) (by decide)) dL_law_1991 ?_
  refine V_aload_n (pc := 1992) C dL_law_1992 rfl 1 rfl ?_
  refine V_iload (pc := 1993) C dL_law_1993 5 rfl ?_
  refine V_iconst (pc := 1995) C (v := 2) dL_law_1995 rfl ?_
  refine V_iadd (pc := 1996) C dL_law_1996 ?_
  refine V_sld (pc := 1997) C hX hbl (hv 2 (by decide) (by decide)) dL_law_1997 ?_
  refine V_callV (pc := 1998) C (ct_X8_takings hT hl h) g1313 g1314 g1315 g1316 g64 ⟨by decide, by decide, pl_X8_takings⟩ (enc_ne63 (by decide)) (ct_obj hT rfl (by decide)) rfl ⟨by decide, by decide⟩ (rest := []) rfl (le8 rfl) dL_law_1998 (fun v2 S2 h => ?_) (fun k9 S9 hk h => absurd h.1 (by omega))
  obtain ⟨-, e1, e2, h⟩ := h
  refine V_st (st' := [Value.int v2]) rfl ?_
  refine V_istore (pc := 2001) C dL_law_2001 (by decide) rfl ?_
  refine V_aload_n (pc := 2003) C dL_law_2003 rfl 4 rfl ?_
  refine V_callV (pc := 2004) C (ct_X8_thrown hT hl (Qa := fun k3 v3 S3 => k3 = 0 ∧ v3 = S2.1 342 0 ∧ S3 = S2) ⟨rfl, rfl, rfl⟩) g1109 g1110 g1111 g1112 g64 ⟨by decide, by decide, pl_X8_thrown⟩ (enc_ne63 (by decide)) (ct_obj hT rfl (by decide)) rfl ⟨by decide, by decide⟩ (rest := []) rfl (le8 rfl) dL_law_2004 (fun v3 S3 h3 => ?_) (fun k9 S9 hk h3 => absurd h3.1 (by omega))
  obtain ⟨-, e3, e4⟩ := h3
  subst e4
  refine V_st (st' := [Value.int v3]) rfl ?_
  refine V_iload (pc := 2007) C dL_law_2007 1 rfl ?_
  refine V_icmp_eq (pc := 2009) (tgt := 2014) C dL_law_2009 (by decide) ⟨fun z => z, fun z => z⟩ (fun _ => ?_) (fun z => absurd (e3.trans e1) z)
  refine V_iload (pc := 2014) C dL_law_2014 1 rfl ?_
  refine V_if_ne (pc := 2016) (tgt := 2031) C dL_law_2016 (by decide) ⟨fun z => z, fun z => z⟩ (fun _ => ?_) (fun v0 => ?_)
  · skip
    refine V_goto (pc := 2031) (tgt := 2369) C dL_law_2031 (by decide) ?_
    refine V_sub [2, 3, 4, 5, 6] rfl ?_
    exact kk h
  refine V_aload_n (pc := 2019) C dL_law_2019 rfl 5 rfl ?_
  refine V_iconst (pc := 2020) C (v := 0) dL_law_2020 rfl ?_
  refine V_laldO (pc := 2021) C hT dL_law_2021 ?_
  refine V_iload (pc := 2022) C dL_law_2022 0 rfl ?_
  refine V_i2l (pc := 2024) C dL_law_2024 ?_
  refine V_lcmp (pc := 2025) C dL_law_2025 ?_
  refine V_if_eq (pc := 2026) (tgt := 2031) C dL_law_2026 (by decide) ⟨fun z => z, fun z => z⟩ (fun _ => ?_) (fun z => absurd (by rw [e2 v0]; exact cmp_self) z)
  refine V_goto (pc := 2031) (tgt := 2369) C dL_law_2031 (by decide) ?_
  refine V_sub [2, 3, 4, 5, 6] rfl ?_
  exact kk h
theorem case_takingsAnew (hT : xT X = tb1) (hl : l.stackTraces = false) (C : Cn X k0 p l R s m meth c cL_law RL 7 15 584) {L : Nat} {xs : Nat → Int32} (hX : va_X (xB X) L xs s (xH X)) (hbl : xB X < (xH X).size) {x4 : Int32} (hv : ∀ j : Int32, 1 ≤ j → j ≤ 6 → vp_in (x4 + j) L) {K : Sg → Prop} (kk : ∀ {T : Sg}, K T → V X p l e R s m args below meth c 7 Q S0 ad0 T 2369 [(0, Value.ref 63), (1, Value.ref (enc 0 0)), (2, Value.ref (enc 12 0)), (3, Value.ref (enc 14 0)), (4, Value.int x4)] []) {S : Sg} (h : w_L_takingsAnew (xs (nt (x4 + 1))) (xs (nt (x4 + 2))) S (LQ (fun S Q => w_X8_takingsAnew (xs (nt (x4 + 1))) (xs (nt (x4 + 2))) S Q) K)) : V X p l e R s m args below meth c 7 Q S0 ad0 S 2034 [(0, Value.ref 63), (1, Value.ref (enc 0 0)), (2, Value.ref (enc 12 0)), (3, Value.ref (enc 14 0)), (4, Value.int x4)] [] := by
  refine V_aload_n (pc := 2034) C dL_law_2034 rfl 1 rfl ?_
  refine V_aload_n (pc := 2035) C dL_law_2035 rfl 0 rfl ?_
  refine V_iload (pc := 2036) C dL_law_2036 4 rfl ?_
  refine V_iconst (pc := 2038) C (v := 1) dL_law_2038 rfl ?_
  refine V_iadd (pc := 2039) C dL_law_2039 ?_
  refine V_sld (pc := 2040) C hX hbl (hv 1 (by decide) (by decide)) dL_law_2040 ?_
  refine V_aload_n (pc := 2041) C dL_law_2041 rfl 0 rfl ?_
  refine V_iload (pc := 2042) C dL_law_2042 4 rfl ?_
  refine V_iconst (pc := 2044) C (v := 2) dL_law_2044 rfl ?_
  refine V_iadd (pc := 2045) C dL_law_2045 ?_
  refine V_sld (pc := 2046) C hX hbl (hv 2 (by decide) (by decide)) dL_law_2046 ?_
  refine V_aload_n (pc := 2047) C dL_law_2047 rfl 3 rfl ?_
  refine V_callH (pc := 2048) C (ct_L_takingsAnew hT hl h) g922 g923 g924 g59 ⟨by decide, by decide, pl_L_takingsAnew⟩ ⟨by decide, by decide⟩ (rest := []) rfl (le8 rfl) dL_law_2048 (fun v S1 h => ?_) (fun k9 S9 hk h => absurd h.1 (by omega))
  replace h := h.2
  refine V_st (st' := [Value.int v]) rfl ?_
  refine V_istore (pc := 2051) C dL_law_2051 (by decide) rfl ?_
  refine V_aload_n (pc := 2053) C dL_law_2053 rfl 3 rfl ?_
  refine V_aload_n (pc := 2054) C dL_law_2054 rfl 1 rfl ?_
  refine V_iload (pc := 2055) C dL_law_2055 5 rfl ?_
  refine V_iconst (pc := 2057) C (v := 1) dL_law_2057 rfl ?_
  refine V_iadd (pc := 2058) C dL_law_2058 ?_
  refine V_sld (pc := 2059) C hX hbl (hv 1 (by decide) (by decide)) dL_law_2059 ?_
  refine V_aload_n (pc := 2060) C dL_law_2060 rfl 1 rfl ?_
  refine V_iload (pc := 2061) C dL_law_2061 5 rfl ?_
  refine V_iconst (pc := 2063) C (v := 2) dL_law_2063 rfl ?_
  refine V_iadd (pc := 2064) C dL_law_2064 ?_
  refine V_sld (pc := 2065) C hX hbl (hv 2 (by decide) (by decide)) dL_law_2065 ?_
  refine V_callV (pc := 2066) C (ct_X8_takingsAnew hT hl h) g1329 g1330 g1331 g1332 g64 ⟨by decide, by decide, pl_X8_takingsAnew⟩ (enc_ne63 (by decide)) (ct_obj hT rfl (by decide)) rfl ⟨by decide, by decide⟩ (rest := []) rfl (le8 rfl) dL_law_2066 (fun v2 S2 h => ?_) (fun k9 S9 hk h => absurd h.1 (by omega))
  obtain ⟨-, e1, e2, h⟩ := h
  refine V_st (st' := [Value.int v2]) rfl ?_
  refine V_istore (pc := 2069) C dL_law_2069 (by decide) rfl ?_
  refine V_aload_n (pc := 2071) C dL_law_2071 rfl 4 rfl ?_
  refine V_callV (pc := 2072) C (ct_X8_thrown hT hl (Qa := fun k3 v3 S3 => k3 = 0 ∧ v3 = S2.1 342 0 ∧ S3 = S2) ⟨rfl, rfl, rfl⟩) g1109 g1110 g1111 g1112 g64 ⟨by decide, by decide, pl_X8_thrown⟩ (enc_ne63 (by decide)) (ct_obj hT rfl (by decide)) rfl ⟨by decide, by decide⟩ (rest := []) rfl (le8 rfl) dL_law_2072 (fun v3 S3 h3 => ?_) (fun k9 S9 hk h3 => absurd h3.1 (by omega))
  obtain ⟨-, e3, e4⟩ := h3
  subst e4
  refine V_st (st' := [Value.int v3]) rfl ?_
  refine V_iload (pc := 2075) C dL_law_2075 1 rfl ?_
  refine V_icmp_eq (pc := 2077) (tgt := 2082) C dL_law_2077 (by decide) ⟨fun z => z, fun z => z⟩ (fun _ => ?_) (fun z => absurd (e3.trans e1) z)
  refine V_iload (pc := 2082) C dL_law_2082 1 rfl ?_
  refine V_if_ne (pc := 2084) (tgt := 2099) C dL_law_2084 (by decide) ⟨fun z => z, fun z => z⟩ (fun _ => ?_) (fun v0 => ?_)
  · skip
    refine V_goto (pc := 2099) (tgt := 2369) C dL_law_2099 (by decide) ?_
    refine V_sub [2, 3, 4, 5, 6] rfl ?_
    exact kk h
  refine V_aload_n (pc := 2087) C dL_law_2087 rfl 5 rfl ?_
  refine V_iconst (pc := 2088) C (v := 0) dL_law_2088 rfl ?_
  refine V_laldO (pc := 2089) C hT dL_law_2089 ?_
  refine V_iload (pc := 2090) C dL_law_2090 0 rfl ?_
  refine V_i2l (pc := 2092) C dL_law_2092 ?_
  refine V_lcmp (pc := 2093) C dL_law_2093 ?_
  refine V_if_eq (pc := 2094) (tgt := 2099) C dL_law_2094 (by decide) ⟨fun z => z, fun z => z⟩ (fun _ => ?_) (fun z => absurd (by rw [e2 v0]; exact cmp_self) z)
  refine V_goto (pc := 2099) (tgt := 2369) C dL_law_2099 (by decide) ?_
  refine V_sub [2, 3, 4, 5, 6] rfl ?_
  exact kk h
theorem case_share (hT : xT X = tb1) (hl : l.stackTraces = false) (C : Cn X k0 p l R s m meth c cL_law RL 7 15 584) {L : Nat} {xs : Nat → Int32} (hX : va_X (xB X) L xs s (xH X)) (hbl : xB X < (xH X).size) {x4 : Int32} (hv : ∀ j : Int32, 1 ≤ j → j ≤ 6 → vp_in (x4 + j) L) {K : Sg → Prop} (kk : ∀ {T : Sg}, K T → V X p l e R s m args below meth c 7 Q S0 ad0 T 2369 [(0, Value.ref 63), (1, Value.ref (enc 0 0)), (2, Value.ref (enc 12 0)), (3, Value.ref (enc 14 0)), (4, Value.int x4)] []) {S : Sg} (h : w_L_share (xs (nt (x4 + 1))) (xs (nt (x4 + 2))) S (LQ (fun S Q => w_X8_share (xs (nt (x4 + 1))) (xs (nt (x4 + 2))) S Q) K)) : V X p l e R s m args below meth c 7 Q S0 ad0 S 2102 [(0, Value.ref 63), (1, Value.ref (enc 0 0)), (2, Value.ref (enc 12 0)), (3, Value.ref (enc 14 0)), (4, Value.int x4)] [] := by
  refine V_aload_n (pc := 2102) C dL_law_2102 rfl 1 rfl ?_
  refine V_aload_n (pc := 2103) C dL_law_2103 rfl 0 rfl ?_
  refine V_iload (pc := 2104) C dL_law_2104 4 rfl ?_
  refine V_iconst (pc := 2106) C (v := 1) dL_law_2106 rfl ?_
  refine V_iadd (pc := 2107) C dL_law_2107 ?_
  refine V_sld (pc := 2108) C hX hbl (hv 1 (by decide) (by decide)) dL_law_2108 ?_
  refine V_aload_n (pc := 2109) C dL_law_2109 rfl 0 rfl ?_
  refine V_iload (pc := 2110) C dL_law_2110 4 rfl ?_
  refine V_iconst (pc := 2112) C (v := 2) dL_law_2112 rfl ?_
  refine V_iadd (pc := 2113) C dL_law_2113 ?_
  refine V_sld (pc := 2114) C hX hbl (hv 2 (by decide) (by decide)) dL_law_2114 ?_
  refine V_aload_n (pc := 2115) C dL_law_2115 rfl 3 rfl ?_
  refine V_callH (pc := 2116) C (ct_L_share hT hl h) g929 g930 g931 g59 ⟨by decide, by decide, pl_L_share⟩ ⟨by decide, by decide⟩ (rest := []) rfl (le8 rfl) dL_law_2116 (fun v S1 h => ?_) (fun k9 S9 hk h => absurd h.1 (by omega))
  replace h := h.2
  refine V_st (st' := [Value.int v]) rfl ?_
  refine V_istore (pc := 2119) C dL_law_2119 (by decide) rfl ?_
  refine V_aload_n (pc := 2121) C dL_law_2121 rfl 3 rfl ?_
  refine V_aload_n (pc := 2122) C dL_law_2122 rfl 1 rfl ?_
  refine V_iload (pc := 2123) C dL_law_2123 5 rfl ?_
  refine V_iconst (pc := 2125) C (v := 1) dL_law_2125 rfl ?_
  refine V_iadd (pc := 2126) C dL_law_2126 ?_
  refine V_sld (pc := 2127) C hX hbl (hv 1 (by decide) (by decide)) dL_law_2127 ?_
  refine V_aload_n (pc := 2128) C dL_law_2128 rfl 1 rfl ?_
  refine V_iload (pc := 2129) C dL_law_2129 5 rfl ?_
  refine V_iconst (pc := 2131) C (v := 2) dL_law_2131 rfl ?_
  refine V_iadd (pc := 2132) C dL_law_2132 ?_
  refine V_sld (pc := 2133) C hX hbl (hv 2 (by decide) (by decide)) dL_law_2133 ?_
  refine V_callV (pc := 2134) C (ct_X8_share hT hl h) g1334 g1335 g1336 g1337 g64 ⟨by decide, by decide, pl_X8_share⟩ (enc_ne63 (by decide)) (ct_obj hT rfl (by decide)) rfl ⟨by decide, by decide⟩ (rest := []) rfl (le8 rfl) dL_law_2134 (fun v2 S2 h => ?_) (fun k9 S9 hk h => absurd h.1 (by omega))
  obtain ⟨-, e1, e2, h⟩ := h
  refine V_st (st' := [Value.int v2]) rfl ?_
  refine V_istore (pc := 2137) C dL_law_2137 (by decide) rfl ?_
  refine V_aload_n (pc := 2139) C dL_law_2139 rfl 4 rfl ?_
  refine V_callV (pc := 2140) C (ct_X8_thrown hT hl (Qa := fun k3 v3 S3 => k3 = 0 ∧ v3 = S2.1 342 0 ∧ S3 = S2) ⟨rfl, rfl, rfl⟩) g1109 g1110 g1111 g1112 g64 ⟨by decide, by decide, pl_X8_thrown⟩ (enc_ne63 (by decide)) (ct_obj hT rfl (by decide)) rfl ⟨by decide, by decide⟩ (rest := []) rfl (le8 rfl) dL_law_2140 (fun v3 S3 h3 => ?_) (fun k9 S9 hk h3 => absurd h3.1 (by omega))
  obtain ⟨-, e3, e4⟩ := h3
  subst e4
  refine V_st (st' := [Value.int v3]) rfl ?_
  refine V_iload (pc := 2143) C dL_law_2143 1 rfl ?_
  refine V_icmp_eq (pc := 2145) (tgt := 2150) C dL_law_2145 (by decide) ⟨fun z => z, fun z => z⟩ (fun _ => ?_) (fun z => absurd (e3.trans e1) z)
  refine V_iload (pc := 2150) C dL_law_2150 1 rfl ?_
  refine V_if_ne (pc := 2152) (tgt := 2167) C dL_law_2152 (by decide) ⟨fun z => z, fun z => z⟩ (fun _ => ?_) (fun v0 => ?_)
  · skip
    refine V_goto (pc := 2167) (tgt := 2369) C dL_law_2167 (by decide) ?_
    refine V_sub [2, 3, 4, 5, 6] rfl ?_
    exact kk h
  refine V_aload_n (pc := 2155) C dL_law_2155 rfl 5 rfl ?_
  refine V_iconst (pc := 2156) C (v := 0) dL_law_2156 rfl ?_
  refine V_laldO (pc := 2157) C hT dL_law_2157 ?_
  refine V_iload (pc := 2158) C dL_law_2158 0 rfl ?_
  refine V_i2l (pc := 2160) C dL_law_2160 ?_
  refine V_lcmp (pc := 2161) C dL_law_2161 ?_
  refine V_if_eq (pc := 2162) (tgt := 2167) C dL_law_2162 (by decide) ⟨fun z => z, fun z => z⟩ (fun _ => ?_) (fun z => absurd (by rw [e2 v0]; exact cmp_self) z)
  refine V_goto (pc := 2167) (tgt := 2369) C dL_law_2167 (by decide) ?_
  refine V_sub [2, 3, 4, 5, 6] rfl ?_
  exact kk h
theorem case_mustStay (hT : xT X = tb1) (hl : l.stackTraces = false) (C : Cn X k0 p l R s m meth c cL_law RL 7 15 584) {L : Nat} {xs : Nat → Int32} (hX : va_X (xB X) L xs s (xH X)) (hbl : xB X < (xH X).size) {x4 : Int32} (hv : ∀ j : Int32, 1 ≤ j → j ≤ 6 → vp_in (x4 + j) L) {K : Sg → Prop} (kk : ∀ {T : Sg}, K T → V X p l e R s m args below meth c 7 Q S0 ad0 T 2369 [(0, Value.ref 63), (1, Value.ref (enc 0 0)), (2, Value.ref (enc 12 0)), (3, Value.ref (enc 14 0)), (4, Value.int x4)] []) {S : Sg} (h : w_L_mustStay (xs (nt (x4 + 1))) (xs (nt (x4 + 2))) S (LQz (fun S Q => w_X8_mustStay (xs (nt (x4 + 1))) (xs (nt (x4 + 2))) S Q) K)) : V X p l e R s m args below meth c 7 Q S0 ad0 S 2170 [(0, Value.ref 63), (1, Value.ref (enc 0 0)), (2, Value.ref (enc 12 0)), (3, Value.ref (enc 14 0)), (4, Value.int x4)] [] := by
  refine V_aload_n (pc := 2170) C dL_law_2170 rfl 1 rfl ?_
  refine V_aload_n (pc := 2171) C dL_law_2171 rfl 0 rfl ?_
  refine V_iload (pc := 2172) C dL_law_2172 4 rfl ?_
  refine V_iconst (pc := 2174) C (v := 1) dL_law_2174 rfl ?_
  refine V_iadd (pc := 2175) C dL_law_2175 ?_
  refine V_sld (pc := 2176) C hX hbl (hv 1 (by decide) (by decide)) dL_law_2176 ?_
  refine V_aload_n (pc := 2177) C dL_law_2177 rfl 0 rfl ?_
  refine V_iload (pc := 2178) C dL_law_2178 4 rfl ?_
  refine V_iconst (pc := 2180) C (v := 2) dL_law_2180 rfl ?_
  refine V_iadd (pc := 2181) C dL_law_2181 ?_
  refine V_sld (pc := 2182) C hX hbl (hv 2 (by decide) (by decide)) dL_law_2182 ?_
  refine V_aload_n (pc := 2183) C dL_law_2183 rfl 3 rfl ?_
  refine V_callH (pc := 2184) C (ct_L_mustStay hT hl h) g941 g942 g943 g59 ⟨by decide, by decide, pl_L_mustStay⟩ ⟨by decide, by decide⟩ (rest := []) rfl (le8 rfl) dL_law_2184 (fun v S1 h => ?_) (fun k9 S9 hk h => absurd h.1 (by omega))
  replace h := h.2
  refine V_st (st' := [Value.int v]) rfl ?_
  refine V_istore (pc := 2187) C dL_law_2187 (by decide) rfl ?_
  refine V_aload_n (pc := 2189) C dL_law_2189 rfl 3 rfl ?_
  refine V_aload_n (pc := 2190) C dL_law_2190 rfl 1 rfl ?_
  refine V_iload (pc := 2191) C dL_law_2191 5 rfl ?_
  refine V_iconst (pc := 2193) C (v := 1) dL_law_2193 rfl ?_
  refine V_iadd (pc := 2194) C dL_law_2194 ?_
  refine V_sld (pc := 2195) C hX hbl (hv 1 (by decide) (by decide)) dL_law_2195 ?_
  refine V_aload_n (pc := 2196) C dL_law_2196 rfl 1 rfl ?_
  refine V_iload (pc := 2197) C dL_law_2197 5 rfl ?_
  refine V_iconst (pc := 2199) C (v := 2) dL_law_2199 rfl ?_
  refine V_iadd (pc := 2200) C dL_law_2200 ?_
  refine V_sld (pc := 2201) C hX hbl (hv 2 (by decide) (by decide)) dL_law_2201 ?_
  refine V_callV (pc := 2202) C (ct_X8_mustStay hT hl h) g1339 g1340 g1341 g1342 g64 ⟨by decide, by decide, pl_X8_mustStay⟩ (enc_ne63 (by decide)) (ct_obj hT rfl (by decide)) rfl ⟨by decide, by decide⟩ (rest := []) rfl (le8 rfl) dL_law_2202 (fun v2 S2 h => ?_) (fun k9 S9 hk h => absurd h.1 (by omega))
  obtain ⟨-, e1, e2, h⟩ := h
  refine V_st (st' := [Value.int v2]) rfl ?_
  refine V_istore (pc := 2205) C dL_law_2205 (by decide) rfl ?_
  refine V_aload_n (pc := 2207) C dL_law_2207 rfl 4 rfl ?_
  refine V_callV (pc := 2208) C (ct_X8_thrown hT hl (Qa := fun k3 v3 S3 => k3 = 0 ∧ v3 = S2.1 342 0 ∧ S3 = S2) ⟨rfl, rfl, rfl⟩) g1109 g1110 g1111 g1112 g64 ⟨by decide, by decide, pl_X8_thrown⟩ (enc_ne63 (by decide)) (ct_obj hT rfl (by decide)) rfl ⟨by decide, by decide⟩ (rest := []) rfl (le8 rfl) dL_law_2208 (fun v3 S3 h3 => ?_) (fun k9 S9 hk h3 => absurd h3.1 (by omega))
  obtain ⟨-, e3, e4⟩ := h3
  subst e4
  refine V_st (st' := [Value.int v3]) rfl ?_
  refine V_iload (pc := 2211) C dL_law_2211 1 rfl ?_
  refine V_icmp_eq (pc := 2213) (tgt := 2218) C dL_law_2213 (by decide) ⟨fun z => z, fun z => z⟩ (fun _ => ?_) (fun z => absurd (e3.trans e1) z)
  refine V_iload (pc := 2218) C dL_law_2218 1 rfl ?_
  refine V_if_ne (pc := 2220) (tgt := 2242) C dL_law_2220 (by decide) ⟨fun z => z, fun z => z⟩ (fun _ => ?_) (fun v0 => ?_)
  · skip
    refine V_goto (pc := 2242) (tgt := 2369) C dL_law_2242 (by decide) ?_
    refine V_sub [2, 3, 4, 5, 6] rfl ?_
    exact kk h
  refine V_aload_n (pc := 2223) C dL_law_2223 rfl 5 rfl ?_
  refine V_iconst (pc := 2224) C (v := 0) dL_law_2224 rfl ?_
  refine V_laldO (pc := 2225) C hT dL_law_2225 ?_
  refine V_iload (pc := 2226) C dL_law_2226 0 rfl ?_
  refine V_if_eq (pc := 2228) (tgt := 2235) C dL_law_2228 (by decide) ⟨fun z => z, fun z => z⟩ (fun b9 => ?_) (fun b9 => ?_)
  · rw [if_pos b9] at e2
    refine V_lconst (pc := 2235) C (v := (0 : Int32).toInt64) dL_law_2235 (by decide) ?_
    refine V_lcmp (pc := 2236) C dL_law_2236 ?_
    refine V_if_eq (pc := 2237) (tgt := 2242) C dL_law_2237 (by decide) ⟨fun z => z, fun z => z⟩ (fun _ => ?_) (fun z => absurd (by rw [e2 v0]; exact cmp_self) z)
    refine V_goto (pc := 2242) (tgt := 2369) C dL_law_2242 (by decide) ?_
    refine V_sub [2, 3, 4, 5, 6] rfl ?_
    exact kk h
  · rw [if_neg b9] at e2
    refine V_lconst (pc := 2231) C (v := (1 : Int32).toInt64) dL_law_2231 (by decide) ?_
    refine V_goto (pc := 2232) (tgt := 2236) C dL_law_2232 (by decide) ?_
    refine V_lcmp (pc := 2236) C dL_law_2236 ?_
    refine V_if_eq (pc := 2237) (tgt := 2242) C dL_law_2237 (by decide) ⟨fun z => z, fun z => z⟩ (fun _ => ?_) (fun z => absurd (by rw [e2 v0]; exact cmp_self) z)
    refine V_goto (pc := 2242) (tgt := 2369) C dL_law_2242 (by decide) ?_
    refine V_sub [2, 3, 4, 5, 6] rfl ?_
    exact kk h
theorem case_audit (hT : xT X = tb1) (hl : l.stackTraces = false) (C : Cn X k0 p l R s m meth c cL_law RL 7 15 584) {L : Nat} {xs : Nat → Int32} (hX : va_X (xB X) L xs s (xH X)) (hbl : xB X < (xH X).size) {x4 : Int32} (hv : ∀ j : Int32, 1 ≤ j → j ≤ 6 → vp_in (x4 + j) L) {K : Sg → Prop} (kk : ∀ {T : Sg}, K T → V X p l e R s m args below meth c 7 Q S0 ad0 T 2369 [(0, Value.ref 63), (1, Value.ref (enc 0 0)), (2, Value.ref (enc 12 0)), (3, Value.ref (enc 14 0)), (4, Value.int x4)] []) {S : Sg} (h : w_L_audit (xs (nt (x4 + 1))) (xs (nt (x4 + 2))) S (LQ (fun S Q => w_X8_audit (xs (nt (x4 + 1))) (xs (nt (x4 + 2))) S Q) K)) : V X p l e R s m args below meth c 7 Q S0 ad0 S 2245 [(0, Value.ref 63), (1, Value.ref (enc 0 0)), (2, Value.ref (enc 12 0)), (3, Value.ref (enc 14 0)), (4, Value.int x4)] [] := by
  refine V_aload_n (pc := 2245) C dL_law_2245 rfl 1 rfl ?_
  refine V_aload_n (pc := 2246) C dL_law_2246 rfl 0 rfl ?_
  refine V_iload (pc := 2247) C dL_law_2247 4 rfl ?_
  refine V_iconst (pc := 2249) C (v := 1) dL_law_2249 rfl ?_
  refine V_iadd (pc := 2250) C dL_law_2250 ?_
  refine V_sld (pc := 2251) C hX hbl (hv 1 (by decide) (by decide)) dL_law_2251 ?_
  refine V_aload_n (pc := 2252) C dL_law_2252 rfl 0 rfl ?_
  refine V_iload (pc := 2253) C dL_law_2253 4 rfl ?_
  refine V_iconst (pc := 2255) C (v := 2) dL_law_2255 rfl ?_
  refine V_iadd (pc := 2256) C dL_law_2256 ?_
  refine V_sld (pc := 2257) C hX hbl (hv 2 (by decide) (by decide)) dL_law_2257 ?_
  refine V_aload_n (pc := 2258) C dL_law_2258 rfl 3 rfl ?_
  refine V_callH (pc := 2259) C (ct_L_audit hT hl h) g948 g949 g950 g59 ⟨by decide, by decide, pl_L_audit⟩ ⟨by decide, by decide⟩ (rest := []) rfl (le8 rfl) dL_law_2259 (fun v S1 h => ?_) (fun k9 S9 hk h => absurd h.1 (by omega))
  replace h := h.2
  refine V_st (st' := [Value.int v]) rfl ?_
  refine V_istore (pc := 2262) C dL_law_2262 (by decide) rfl ?_
  refine V_aload_n (pc := 2264) C dL_law_2264 rfl 3 rfl ?_
  refine V_aload_n (pc := 2265) C dL_law_2265 rfl 1 rfl ?_
  refine V_iload (pc := 2266) C dL_law_2266 5 rfl ?_
  refine V_iconst (pc := 2268) C (v := 1) dL_law_2268 rfl ?_
  refine V_iadd (pc := 2269) C dL_law_2269 ?_
  refine V_sld (pc := 2270) C hX hbl (hv 1 (by decide) (by decide)) dL_law_2270 ?_
  refine V_aload_n (pc := 2271) C dL_law_2271 rfl 1 rfl ?_
  refine V_iload (pc := 2272) C dL_law_2272 5 rfl ?_
  refine V_iconst (pc := 2274) C (v := 2) dL_law_2274 rfl ?_
  refine V_iadd (pc := 2275) C dL_law_2275 ?_
  refine V_sld (pc := 2276) C hX hbl (hv 2 (by decide) (by decide)) dL_law_2276 ?_
  refine V_callV (pc := 2277) C (ct_X8_audit hT hl h) g1343 g1344 g1345 g1346 g64 ⟨by decide, by decide, pl_X8_audit⟩ (enc_ne63 (by decide)) (ct_obj hT rfl (by decide)) rfl ⟨by decide, by decide⟩ (rest := []) rfl (le8 rfl) dL_law_2277 (fun v2 S2 h => ?_) (fun k9 S9 hk h => absurd h.1 (by omega))
  obtain ⟨-, e1, e2, h⟩ := h
  refine V_st (st' := [Value.int v2]) rfl ?_
  refine V_istore (pc := 2280) C dL_law_2280 (by decide) rfl ?_
  refine V_aload_n (pc := 2282) C dL_law_2282 rfl 4 rfl ?_
  refine V_callV (pc := 2283) C (ct_X8_thrown hT hl (Qa := fun k3 v3 S3 => k3 = 0 ∧ v3 = S2.1 342 0 ∧ S3 = S2) ⟨rfl, rfl, rfl⟩) g1109 g1110 g1111 g1112 g64 ⟨by decide, by decide, pl_X8_thrown⟩ (enc_ne63 (by decide)) (ct_obj hT rfl (by decide)) rfl ⟨by decide, by decide⟩ (rest := []) rfl (le8 rfl) dL_law_2283 (fun v3 S3 h3 => ?_) (fun k9 S9 hk h3 => absurd h3.1 (by omega))
  obtain ⟨-, e3, e4⟩ := h3
  subst e4
  refine V_st (st' := [Value.int v3]) rfl ?_
  refine V_iload (pc := 2286) C dL_law_2286 1 rfl ?_
  refine V_icmp_eq (pc := 2288) (tgt := 2293) C dL_law_2288 (by decide) ⟨fun z => z, fun z => z⟩ (fun _ => ?_) (fun z => absurd (e3.trans e1) z)
  refine V_iload (pc := 2293) C dL_law_2293 1 rfl ?_
  refine V_if_ne (pc := 2295) (tgt := 2310) C dL_law_2295 (by decide) ⟨fun z => z, fun z => z⟩ (fun _ => ?_) (fun v0 => ?_)
  · skip
    refine V_goto (pc := 2310) (tgt := 2369) C dL_law_2310 (by decide) ?_
    refine V_sub [2, 3, 4, 5, 6] rfl ?_
    exact kk h
  refine V_aload_n (pc := 2298) C dL_law_2298 rfl 5 rfl ?_
  refine V_iconst (pc := 2299) C (v := 0) dL_law_2299 rfl ?_
  refine V_laldO (pc := 2300) C hT dL_law_2300 ?_
  refine V_iload (pc := 2301) C dL_law_2301 0 rfl ?_
  refine V_i2l (pc := 2303) C dL_law_2303 ?_
  refine V_lcmp (pc := 2304) C dL_law_2304 ?_
  refine V_if_eq (pc := 2305) (tgt := 2310) C dL_law_2305 (by decide) ⟨fun z => z, fun z => z⟩ (fun _ => ?_) (fun z => absurd (by rw [e2 v0]; exact cmp_self) z)
  refine V_goto (pc := 2310) (tgt := 2369) C dL_law_2310 (by decide) ?_
  refine V_sub [2, 3, 4, 5, 6] rfl ?_
  exact kk h
theorem case_all (hT : xT X = tb1) (hl : l.stackTraces = false) (C : Cn X k0 p l R s m meth c cL_law RL 7 15 584) {L : Nat} {xs : Nat → Int32} (hX : va_X (xB X) L xs s (xH X)) (hbl : xB X < (xH X).size) {x4 : Int32} (hv : ∀ j : Int32, 1 ≤ j → j ≤ 6 → vp_in (x4 + j) L) {K : Sg → Prop} (kk : ∀ {T : Sg}, K T → V X p l e R s m args below meth c 7 Q S0 ad0 T 2369 [(0, Value.ref 63), (1, Value.ref (enc 0 0)), (2, Value.ref (enc 12 0)), (3, Value.ref (enc 14 0)), (4, Value.int x4)] []) {S : Sg} (h : w_L_all (xs (nt (x4 + 1))) S (LQ (fun S Q => w_X8_all (xs (nt (x4 + 1))) S Q) K)) : V X p l e R s m args below meth c 7 Q S0 ad0 S 2313 [(0, Value.ref 63), (1, Value.ref (enc 0 0)), (2, Value.ref (enc 12 0)), (3, Value.ref (enc 14 0)), (4, Value.int x4)] [] := by
  refine V_aload_n (pc := 2313) C dL_law_2313 rfl 1 rfl ?_
  refine V_aload_n (pc := 2314) C dL_law_2314 rfl 0 rfl ?_
  refine V_iload (pc := 2315) C dL_law_2315 4 rfl ?_
  refine V_iconst (pc := 2317) C (v := 1) dL_law_2317 rfl ?_
  refine V_iadd (pc := 2318) C dL_law_2318 ?_
  refine V_sld (pc := 2319) C hX hbl (hv 1 (by decide) (by decide)) dL_law_2319 ?_
  refine V_aload_n (pc := 2320) C dL_law_2320 rfl 3 rfl ?_
  refine V_callH (pc := 2321) C (ct_L_all hT hl h) g961 g962 g963 g59 ⟨by decide, by decide, pl_L_all⟩ ⟨by decide, by decide⟩ (rest := []) rfl (le8 rfl) dL_law_2321 (fun v S1 h => ?_) (fun k9 S9 hk h => absurd h.1 (by omega))
  replace h := h.2
  refine V_st (st' := [Value.int v]) rfl ?_
  refine V_istore (pc := 2324) C dL_law_2324 (by decide) rfl ?_
  refine V_aload_n (pc := 2326) C dL_law_2326 rfl 3 rfl ?_
  refine V_aload_n (pc := 2327) C dL_law_2327 rfl 1 rfl ?_
  refine V_iload (pc := 2328) C dL_law_2328 5 rfl ?_
  refine V_iconst (pc := 2330) C (v := 1) dL_law_2330 rfl ?_
  refine V_iadd (pc := 2331) C dL_law_2331 ?_
  refine V_sld (pc := 2332) C hX hbl (hv 1 (by decide) (by decide)) dL_law_2332 ?_
  refine V_callV (pc := 2333) C (ct_X8_all hT hl h) g1347 g1348 g1349 g1350 g64 ⟨by decide, by decide, pl_X8_all⟩ (enc_ne63 (by decide)) (ct_obj hT rfl (by decide)) rfl ⟨by decide, by decide⟩ (rest := []) rfl (le8 rfl) dL_law_2333 (fun v2 S2 h => ?_) (fun k9 S9 hk h => absurd h.1 (by omega))
  obtain ⟨-, e1, e2, h⟩ := h
  refine V_st (st' := [Value.int v2]) rfl ?_
  refine V_istore (pc := 2336) C dL_law_2336 (by decide) rfl ?_
  refine V_aload_n (pc := 2338) C dL_law_2338 rfl 4 rfl ?_
  refine V_callV (pc := 2339) C (ct_X8_thrown hT hl (Qa := fun k3 v3 S3 => k3 = 0 ∧ v3 = S2.1 342 0 ∧ S3 = S2) ⟨rfl, rfl, rfl⟩) g1109 g1110 g1111 g1112 g64 ⟨by decide, by decide, pl_X8_thrown⟩ (enc_ne63 (by decide)) (ct_obj hT rfl (by decide)) rfl ⟨by decide, by decide⟩ (rest := []) rfl (le8 rfl) dL_law_2339 (fun v3 S3 h3 => ?_) (fun k9 S9 hk h3 => absurd h3.1 (by omega))
  obtain ⟨-, e3, e4⟩ := h3
  subst e4
  refine V_st (st' := [Value.int v3]) rfl ?_
  refine V_iload (pc := 2342) C dL_law_2342 1 rfl ?_
  refine V_icmp_eq (pc := 2344) (tgt := 2349) C dL_law_2344 (by decide) ⟨fun z => z, fun z => z⟩ (fun _ => ?_) (fun z => absurd (e3.trans e1) z)
  refine V_iload (pc := 2349) C dL_law_2349 1 rfl ?_
  refine V_if_ne (pc := 2351) (tgt := 2366) C dL_law_2351 (by decide) ⟨fun z => z, fun z => z⟩ (fun _ => ?_) (fun v0 => ?_)
  · skip
    refine V_goto (pc := 2366) (tgt := 2369) C dL_law_2366 (by decide) ?_
    refine V_sub [2, 3, 4, 5, 6] rfl ?_
    exact kk h
  refine V_aload_n (pc := 2354) C dL_law_2354 rfl 5 rfl ?_
  refine V_iconst (pc := 2355) C (v := 0) dL_law_2355 rfl ?_
  refine V_laldO (pc := 2356) C hT dL_law_2356 ?_
  refine V_iload (pc := 2357) C dL_law_2357 0 rfl ?_
  refine V_i2l (pc := 2359) C dL_law_2359 ?_
  refine V_lcmp (pc := 2360) C dL_law_2360 ?_
  refine V_if_eq (pc := 2361) (tgt := 2366) C dL_law_2361 (by decide) ⟨fun z => z, fun z => z⟩ (fun _ => ?_) (fun z => absurd (by rw [e2 v0]; exact cmp_self) z)
  refine V_goto (pc := 2366) (tgt := 2369) C dL_law_2366 (by decide) ?_
  refine V_sub [2, 3, 4, 5, 6] rfl ?_
  exact kk h
end CA
