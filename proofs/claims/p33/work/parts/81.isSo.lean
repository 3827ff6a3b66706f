section LB81
variable {X : Cx} {p : Program} {l : Launch} {e : Env} {R : Room} {s : State} {m : MethodId} {args : Array Value} {below : List Frame} {meth : Method} {c : Code} {S0 : Sg} {ad0 : Nat → Nat} {Qa : Nat → Int32 → Sg → Prop}
theorem pl_L_isSo : (parseMethodDescriptor yL_isSo.desc).map (fun d => d.parameters.length) = some 13 := by decide +kernel
def w_L_isSo_1256  (Q : Nat → Int32 → Sg → Prop) (x15 : Int32) (S : Sg) : Prop := ((x15 = 0 → Q 0 0 S) ∧ (¬ x15 = 0 → (vp_in 7 8 ∧ (w_L_does 20 0 (S.1 112 (nt 7)) 0 0 0 S (fun k3 v2 S1 => (k3 = 0 → ((v2 = (-3000000) → Q 0 1 S1) ∧ (¬ v2 = (-3000000) → Q 0 0 S1))) ∧ (¬ k3 = 0 → Q k3 0 S1))))))
theorem k_L_isSo_1256 (hT : xT X = tb1) (hl : l.stackTraces = false) (C : Cn X k0 p l R s m meth c cL_isSo RL 23 14 321) (hr : meth.sig.returnType = (some .boolean)) (hnm : meth.name = yL_isSo.name) (htab : (∀ x ∈ c.exceptionTable.toList, False))  {x15 : Int32} {S : Sg} (h : w_L_isSo_1256  Qa x15 S) : V X p l e R s m args below meth c 23 (QM X below args s S0 ad0 rvI Qa) S0 ad0 S 1256 [(0, Value.ref (enc 0 0)), (10, Value.ref (enc 13 12)), (15, Value.int x15)] [] := by
  refine V_iload (pc := 1256) C dL_isSo_1256 2 rfl ?_
  refine V_if_eq (pc := 1258) (tgt := 1285) C dL_isSo_1258 (by decide) h (fun h => ?_) (fun h => ?_)
  · refine V_iconst (pc := 1285) C (v := 0) dL_isSo_1285 rfl ?_
    exact V_zret (pc := 1286) C hr (by decide) rfl h dL_isSo_1286
  · refine V_aload_n (pc := 1261) C dL_isSo_1261 rfl 0 rfl ?_
    refine V_bipush (pc := 1262) C (v := 20) dL_isSo_1262 rfl ?_
    refine V_iconst (pc := 1264) C (v := 0) dL_isSo_1264 rfl ?_
    refine V_aload (pc := 1265) C dL_isSo_1265 1 rfl ?_
    refine V_bipush (pc := 1267) C (v := 7) dL_isSo_1267 rfl ?_
    refine V_mld (pc := 1269) C hT tb1_arr (n := 8) (c9 := 112) rfl rfl rfl h dL_isSo_1269 (fun h => ?_)
    refine V_iconst (pc := 1270) C (v := 0) dL_isSo_1270 rfl ?_
    refine V_iconst (pc := 1271) C (v := 0) dL_isSo_1271 rfl ?_
    refine V_iconst (pc := 1272) C (v := 0) dL_isSo_1272 rfl ?_
    refine V_callH (pc := 1273) C (ct_L_does hT hl h) g119 g120 g121 g32 ⟨by decide, by decide, pl_L_does⟩ ⟨by decide, by decide⟩ (rest := []) rfl (le8 rfl) dL_isSo_1273 (fun v2 S1 h => ?_) (fun k9 S9 hk h => VX_out C htab hk (h.2 (by omega)))
    replace h := h.1 rfl
    refine V_st (st' := [Value.int v2]) rfl ?_
    refine V_ldc (pc := 1276) C g779 dL_isSo_1276 ?_
    refine V_icmp_ne (pc := 1278) (tgt := 1285) C dL_isSo_1278 (by decide) h (fun h => ?_) (fun h => ?_)
    · refine V_iconst (pc := 1285) C (v := 0) dL_isSo_1285 rfl ?_
      exact V_zret (pc := 1286) C hr (by decide) rfl h dL_isSo_1286
    · refine V_iconst (pc := 1281) C (v := 1) dL_isSo_1281 rfl ?_
      refine V_goto (pc := 1282) (tgt := 1286) C dL_isSo_1282 (by decide) ?_
      exact V_zret (pc := 1286) C hr (by decide) rfl h dL_isSo_1286
def w_L_isSo_1254  (Q : Nat → Int32 → Sg → Prop) (y0 : Int32) (S : Sg) : Prop := w_L_isSo_1256  Q y0 S
theorem k_L_isSo_1254 (hT : xT X = tb1) (hl : l.stackTraces = false) (C : Cn X k0 p l R s m meth c cL_isSo RL 23 14 321) (hr : meth.sig.returnType = (some .boolean)) (hnm : meth.name = yL_isSo.name) (htab : (∀ x ∈ c.exceptionTable.toList, False))  {y0 : Int32} {S : Sg} (h : w_L_isSo_1254  Qa y0 S) : V X p l e R s m args below meth c 23 (QM X below args s S0 ad0 rvI Qa) S0 ad0 S 1254 [(0, Value.ref (enc 0 0)), (10, Value.ref (enc 13 12))] [Value.int y0] := by
  refine V_istore (pc := 1254) C dL_isSo_1254 (by decide) rfl ?_
  refine V_sub [1, 2, 0] rfl ?_
  exact k_L_isSo_1256 hT hl C hr hnm htab  h
def w_L_isSo_1253  (Q : Nat → Int32 → Sg → Prop)  (S : Sg) : Prop := w_L_isSo_1254  Q 0 S
theorem k_L_isSo_1253 (hT : xT X = tb1) (hl : l.stackTraces = false) (C : Cn X k0 p l R s m meth c cL_isSo RL 23 14 321) (hr : meth.sig.returnType = (some .boolean)) (hnm : meth.name = yL_isSo.name) (htab : (∀ x ∈ c.exceptionTable.toList, False))   {S : Sg} (h : w_L_isSo_1253  Qa  S) : V X p l e R s m args below meth c 23 (QM X below args s S0 ad0 rvI Qa) S0 ad0 S 1253 [(0, Value.ref (enc 0 0)), (10, Value.ref (enc 13 12))] [] := by
  refine V_iconst (pc := 1253) C (v := 0) dL_isSo_1253 rfl ?_
  refine V_sub [0, 1] rfl ?_
  exact k_L_isSo_1254 hT hl C hr hnm htab  h
def w_L_isSo_1090  (Q : Nat → Int32 → Sg → Prop) : Nat → Int32 → Int32 → Int32 → Int32 → Int32 → Sg → Prop
  | 0, _, _, _, _, _, _ => False
  | n + 1, x16, x17, x18, x19, x20, S => ((x16 < x20 → (w_X7_ofTicket x17 0 S (fun k6 v5 S4 => (k6 = 0 → (vp_in x17 64 ∧ ((v5 = ((S4.1 108 (nt x17)) - (S4.1 108 (nt x17)) / 8 * 8) → (w_X7_ofTicket x17 1 S4 (fun k9 v8 S7 => (k9 = 0 → (vp_in x17 64 ∧ (¬ x18 = 0 ∧ ((v8 = ((((S7.1 108 (nt x17)) / 8) - ((S7.1 108 (nt x17)) / 8) / 16 * 16) / x18) → (w_X7_ofTicket x17 2 S7 (fun k12 v11 S10 => (k12 = 0 → (vp_in x17 64 ∧ (¬ x18 = 0 ∧ ((v11 = ((((S10.1 108 (nt x17)) / 8) - ((S10.1 108 (nt x17)) / 8) / 16 * 16) - (((S10.1 108 (nt x17)) / 8) - ((S10.1 108 (nt x17)) / 8) / 16 * 16) / x18 * x18) → (w_X7_ofTicket x17 3 S10 (fun k15 v14 S13 => (k15 = 0 → (vp_in x17 64 ∧ ((v14 = (((S13.1 108 (nt x17)) / 128) - ((S13.1 108 (nt x17)) / 128) / 128 * 128) → (w_X7_ofTicket x17 4 S13 (fun k18 v17 S16 => (k18 = 0 → (vp_in x17 64 ∧ ((v17 = (S16.1 109 (nt x17)) → (w_X7_ofTicket x17 5 S16 (fun k21 v20 S19 => (k21 = 0 → (vp_in x17 64 ∧ ((v20 = ((S19.1 108 (nt x17)) / 16384) → (w_X7_audit x17 x16 S19 (fun k24 v23 S22 => (k24 = 0 → ((v23 = x19 → w_L_isSo_1254  Q 1 S22) ∧ (¬ v23 = x19 → w_L_isSo_1253  Q  S22))) ∧ (¬ k24 = 0 → Q k24 0 S22)))) ∧ (¬ v20 = ((S19.1 108 (nt x17)) / 16384) → w_L_isSo_1253  Q  S19)))) ∧ (¬ k21 = 0 → Q k21 0 S19)))) ∧ (¬ v17 = (S16.1 109 (nt x17)) → w_L_isSo_1253  Q  S16)))) ∧ (¬ k18 = 0 → Q k18 0 S16)))) ∧ (¬ v14 = (((S13.1 108 (nt x17)) / 128) - ((S13.1 108 (nt x17)) / 128) / 128 * 128) → w_L_isSo_1253  Q  S13)))) ∧ (¬ k15 = 0 → Q k15 0 S13)))) ∧ (¬ v11 = ((((S10.1 108 (nt x17)) / 8) - ((S10.1 108 (nt x17)) / 8) / 16 * 16) - (((S10.1 108 (nt x17)) / 8) - ((S10.1 108 (nt x17)) / 8) / 16 * 16) / x18 * x18) → w_L_isSo_1253  Q  S10))))) ∧ (¬ k12 = 0 → Q k12 0 S10)))) ∧ (¬ v8 = ((((S7.1 108 (nt x17)) / 8) - ((S7.1 108 (nt x17)) / 8) / 16 * 16) / x18) → w_L_isSo_1253  Q  S7))))) ∧ (¬ k9 = 0 → Q k9 0 S7)))) ∧ (¬ v5 = ((S4.1 108 (nt x17)) - (S4.1 108 (nt x17)) / 8 * 8) → w_L_isSo_1253  Q  S4)))) ∧ (¬ k6 = 0 → Q k6 0 S4)))) ∧ (¬ x16 < x20 → (vp_in x20 64 ∧ (∀ v25, v25 = x19 + (S.1 109 (nt x20)) → w_L_isSo_1090  Q n x16 x17 x18 v25 (x20 + 1) S))))
theorem k_L_isSo_1090 (hT : xT X = tb1) (hl : l.stackTraces = false) (C : Cn X k0 p l R s m meth c cL_isSo RL 23 14 321) (hr : meth.sig.returnType = (some .boolean)) (hnm : meth.name = yL_isSo.name) (htab : (∀ x ∈ c.exceptionTable.toList, False))  : ∀ n {x16 : Int32} {x17 : Int32} {x18 : Int32} {x19 : Int32} {x20 : Int32} {S : Sg}, w_L_isSo_1090  Qa n x16 x17 x18 x19 x20 S → V X p l e R s m args below meth c 23 (QM X below args s S0 ad0 rvI Qa) S0 ad0 S 1090 [(0, Value.ref (enc 0 0)), (6, Value.ref (enc 13 8)), (7, Value.ref (enc 13 9)), (10, Value.ref (enc 13 12)), (16, Value.int x16), (17, Value.int x17), (18, Value.int x18), (19, Value.int x19), (20, Value.int x20)] [] := by
  intro n
  induction n with
  | zero => intro x16 x17 x18 x19 x20 S h; exact h.elim
  | succ n ih =>
    intro x16 x17 x18 x19 x20 S h
    refine V_iload (pc := 1090) C dL_isSo_1090 8 rfl ?_
    refine V_iload (pc := 1092) C dL_isSo_1092 4 rfl ?_
    refine V_icmp_gt (pc := 1094) (tgt := 1113) C dL_isSo_1094 (by decide) h (fun h => ?_) (fun h => ?_)
    · refine V_aload_n (pc := 1113) C dL_isSo_1113 rfl 0 rfl ?_
      refine V_iload (pc := 1114) C dL_isSo_1114 5 rfl ?_
      refine V_iconst (pc := 1116) C (v := 0) dL_isSo_1116 rfl ?_
      refine V_callV (pc := 1117) C (ct_X7_ofTicket hT hl h) g867 g868 g869 g870 g33 ⟨by decide, by decide, pl_X7_ofTicket⟩ (enc_ne63 (by decide)) (ct_obj hT rfl (by decide)) rfl ⟨by decide, by decide⟩ (rest := []) rfl (le8 rfl) dL_isSo_1117 (fun v5 S4 h => ?_) (fun k9 S9 hk h => VX_out C htab hk (h.2 (by omega)))
      replace h := h.1 rfl
      refine V_st (st' := [Value.int v5]) rfl ?_
      refine V_aload (pc := 1120) C dL_isSo_1120 1 rfl ?_
      refine V_iload (pc := 1122) C dL_isSo_1122 5 rfl ?_
      refine V_mld (pc := 1124) C hT tb1_arr (n := 64) (c9 := 108) rfl rfl rfl h dL_isSo_1124 (fun h => ?_)
      refine V_bipush (pc := 1125) C (v := 8) dL_isSo_1125 rfl ?_
      refine V_irem (pc := 1127) C dL_isSo_1127 (by decide) ?_
      refine V_icmp_ne (pc := 1128) (tgt := 1253) C dL_isSo_1128 (by decide) h (fun h => ?_) (fun h => ?_)
      · refine V_sub [0, 3] rfl ?_
        exact k_L_isSo_1253 hT hl C hr hnm htab  h
      · refine V_aload_n (pc := 1131) C dL_isSo_1131 rfl 0 rfl ?_
        refine V_iload (pc := 1132) C dL_isSo_1132 5 rfl ?_
        refine V_iconst (pc := 1134) C (v := 1) dL_isSo_1134 rfl ?_
        refine V_callV (pc := 1135) C (ct_X7_ofTicket hT hl h) g867 g868 g869 g870 g33 ⟨by decide, by decide, pl_X7_ofTicket⟩ (enc_ne63 (by decide)) (ct_obj hT rfl (by decide)) rfl ⟨by decide, by decide⟩ (rest := []) rfl (le8 rfl) dL_isSo_1135 (fun v8 S7 h => ?_) (fun k9 S9 hk h => VX_out C htab hk (h.2 (by omega)))
        replace h := h.1 rfl
        refine V_st (st' := [Value.int v8]) rfl ?_
        refine V_aload (pc := 1138) C dL_isSo_1138 1 rfl ?_
        refine V_iload (pc := 1140) C dL_isSo_1140 5 rfl ?_
        refine V_mld (pc := 1142) C hT tb1_arr (n := 64) (c9 := 108) rfl rfl rfl h dL_isSo_1142 (fun h => ?_)
        refine V_bipush (pc := 1143) C (v := 8) dL_isSo_1143 rfl ?_
        refine V_idiv (pc := 1145) C dL_isSo_1145 (by decide) ?_
        refine V_bipush (pc := 1146) C (v := 16) dL_isSo_1146 rfl ?_
        refine V_irem (pc := 1148) C dL_isSo_1148 (by decide) ?_
        refine V_iload (pc := 1149) C dL_isSo_1149 6 rfl ?_
        refine V_idiv (pc := 1151) C dL_isSo_1151 h.1 ?_
        replace h := h.2
        refine V_icmp_ne (pc := 1152) (tgt := 1253) C dL_isSo_1152 (by decide) h (fun h => ?_) (fun h => ?_)
        · refine V_sub [0, 3] rfl ?_
          exact k_L_isSo_1253 hT hl C hr hnm htab  h
        · refine V_aload_n (pc := 1155) C dL_isSo_1155 rfl 0 rfl ?_
          refine V_iload (pc := 1156) C dL_isSo_1156 5 rfl ?_
          refine V_iconst (pc := 1158) C (v := 2) dL_isSo_1158 rfl ?_
          refine V_callV (pc := 1159) C (ct_X7_ofTicket hT hl h) g867 g868 g869 g870 g33 ⟨by decide, by decide, pl_X7_ofTicket⟩ (enc_ne63 (by decide)) (ct_obj hT rfl (by decide)) rfl ⟨by decide, by decide⟩ (rest := []) rfl (le8 rfl) dL_isSo_1159 (fun v11 S10 h => ?_) (fun k9 S9 hk h => VX_out C htab hk (h.2 (by omega)))
          replace h := h.1 rfl
          refine V_st (st' := [Value.int v11]) rfl ?_
          refine V_aload (pc := 1162) C dL_isSo_1162 1 rfl ?_
          refine V_iload (pc := 1164) C dL_isSo_1164 5 rfl ?_
          refine V_mld (pc := 1166) C hT tb1_arr (n := 64) (c9 := 108) rfl rfl rfl h dL_isSo_1166 (fun h => ?_)
          refine V_bipush (pc := 1167) C (v := 8) dL_isSo_1167 rfl ?_
          refine V_idiv (pc := 1169) C dL_isSo_1169 (by decide) ?_
          refine V_bipush (pc := 1170) C (v := 16) dL_isSo_1170 rfl ?_
          refine V_irem (pc := 1172) C dL_isSo_1172 (by decide) ?_
          refine V_iload (pc := 1173) C dL_isSo_1173 6 rfl ?_
          refine V_irem (pc := 1175) C dL_isSo_1175 h.1 ?_
          replace h := h.2
          refine V_icmp_ne (pc := 1176) (tgt := 1253) C dL_isSo_1176 (by decide) h (fun h => ?_) (fun h => ?_)
          · refine V_sub [0, 3] rfl ?_
            exact k_L_isSo_1253 hT hl C hr hnm htab  h
          · refine V_aload_n (pc := 1179) C dL_isSo_1179 rfl 0 rfl ?_
            refine V_iload (pc := 1180) C dL_isSo_1180 5 rfl ?_
            refine V_iconst (pc := 1182) C (v := 3) dL_isSo_1182 rfl ?_
            refine V_callV (pc := 1183) C (ct_X7_ofTicket hT hl h) g867 g868 g869 g870 g33 ⟨by decide, by decide, pl_X7_ofTicket⟩ (enc_ne63 (by decide)) (ct_obj hT rfl (by decide)) rfl ⟨by decide, by decide⟩ (rest := []) rfl (le8 rfl) dL_isSo_1183 (fun v14 S13 h => ?_) (fun k9 S9 hk h => VX_out C htab hk (h.2 (by omega)))
            replace h := h.1 rfl
            refine V_st (st' := [Value.int v14]) rfl ?_
            refine V_aload (pc := 1186) C dL_isSo_1186 1 rfl ?_
            refine V_iload (pc := 1188) C dL_isSo_1188 5 rfl ?_
            refine V_mld (pc := 1190) C hT tb1_arr (n := 64) (c9 := 108) rfl rfl rfl h dL_isSo_1190 (fun h => ?_)
            refine V_sipush (pc := 1191) C (v := 128) dL_isSo_1191 rfl ?_
            refine V_idiv (pc := 1194) C dL_isSo_1194 (by decide) ?_
            refine V_sipush (pc := 1195) C (v := 128) dL_isSo_1195 rfl ?_
            refine V_irem (pc := 1198) C dL_isSo_1198 (by decide) ?_
            refine V_icmp_ne (pc := 1199) (tgt := 1253) C dL_isSo_1199 (by decide) h (fun h => ?_) (fun h => ?_)
            · refine V_sub [0, 3] rfl ?_
              exact k_L_isSo_1253 hT hl C hr hnm htab  h
            · refine V_aload_n (pc := 1202) C dL_isSo_1202 rfl 0 rfl ?_
              refine V_iload (pc := 1203) C dL_isSo_1203 5 rfl ?_
              refine V_iconst (pc := 1205) C (v := 4) dL_isSo_1205 rfl ?_
              refine V_callV (pc := 1206) C (ct_X7_ofTicket hT hl h) g867 g868 g869 g870 g33 ⟨by decide, by decide, pl_X7_ofTicket⟩ (enc_ne63 (by decide)) (ct_obj hT rfl (by decide)) rfl ⟨by decide, by decide⟩ (rest := []) rfl (le8 rfl) dL_isSo_1206 (fun v17 S16 h => ?_) (fun k9 S9 hk h => VX_out C htab hk (h.2 (by omega)))
              replace h := h.1 rfl
              refine V_st (st' := [Value.int v17]) rfl ?_
              refine V_aload (pc := 1209) C dL_isSo_1209 2 rfl ?_
              refine V_iload (pc := 1211) C dL_isSo_1211 5 rfl ?_
              refine V_mld (pc := 1213) C hT tb1_arr (n := 64) (c9 := 109) rfl rfl rfl h dL_isSo_1213 (fun h => ?_)
              refine V_icmp_ne (pc := 1214) (tgt := 1253) C dL_isSo_1214 (by decide) h (fun h => ?_) (fun h => ?_)
              · refine V_sub [0, 3] rfl ?_
                exact k_L_isSo_1253 hT hl C hr hnm htab  h
              · refine V_aload_n (pc := 1217) C dL_isSo_1217 rfl 0 rfl ?_
                refine V_iload (pc := 1218) C dL_isSo_1218 5 rfl ?_
                refine V_iconst (pc := 1220) C (v := 5) dL_isSo_1220 rfl ?_
                refine V_callV (pc := 1221) C (ct_X7_ofTicket hT hl h) g867 g868 g869 g870 g33 ⟨by decide, by decide, pl_X7_ofTicket⟩ (enc_ne63 (by decide)) (ct_obj hT rfl (by decide)) rfl ⟨by decide, by decide⟩ (rest := []) rfl (le8 rfl) dL_isSo_1221 (fun v20 S19 h => ?_) (fun k9 S9 hk h => VX_out C htab hk (h.2 (by omega)))
                replace h := h.1 rfl
                refine V_st (st' := [Value.int v20]) rfl ?_
                refine V_aload (pc := 1224) C dL_isSo_1224 1 rfl ?_
                refine V_iload (pc := 1226) C dL_isSo_1226 5 rfl ?_
                refine V_mld (pc := 1228) C hT tb1_arr (n := 64) (c9 := 108) rfl rfl rfl h dL_isSo_1228 (fun h => ?_)
                refine V_sipush (pc := 1229) C (v := 16384) dL_isSo_1229 rfl ?_
                refine V_idiv (pc := 1232) C dL_isSo_1232 (by decide) ?_
                refine V_icmp_ne (pc := 1233) (tgt := 1253) C dL_isSo_1233 (by decide) h (fun h => ?_) (fun h => ?_)
                · refine V_sub [0, 3] rfl ?_
                  exact k_L_isSo_1253 hT hl C hr hnm htab  h
                · refine V_aload_n (pc := 1236) C dL_isSo_1236 rfl 0 rfl ?_
                  refine V_iload (pc := 1237) C dL_isSo_1237 5 rfl ?_
                  refine V_iload (pc := 1239) C dL_isSo_1239 4 rfl ?_
                  refine V_callV (pc := 1241) C (ct_X7_audit hT hl h) g769 g770 g771 g772 g33 ⟨by decide, by decide, pl_X7_audit⟩ (enc_ne63 (by decide)) (ct_obj hT rfl (by decide)) rfl ⟨by decide, by decide⟩ (rest := []) rfl (le8 rfl) dL_isSo_1241 (fun v23 S22 h => ?_) (fun k9 S9 hk h => VX_out C htab hk (h.2 (by omega)))
                  replace h := h.1 rfl
                  refine V_st (st' := [Value.int v23]) rfl ?_
                  refine V_iload (pc := 1244) C dL_isSo_1244 7 rfl ?_
                  refine V_icmp_ne (pc := 1246) (tgt := 1253) C dL_isSo_1246 (by decide) h (fun h => ?_) (fun h => ?_)
                  · refine V_sub [0, 3] rfl ?_
                    exact k_L_isSo_1253 hT hl C hr hnm htab  h
                  · refine V_iconst (pc := 1249) C (v := 1) dL_isSo_1249 rfl ?_
                    refine V_goto (pc := 1250) (tgt := 1254) C dL_isSo_1250 (by decide) ?_
                    refine V_sub [0, 3] rfl ?_
                    exact k_L_isSo_1254 hT hl C hr hnm htab  h
    · refine V_iload (pc := 1097) C dL_isSo_1097 7 rfl ?_
      refine V_aload (pc := 1099) C dL_isSo_1099 2 rfl ?_
      refine V_iload (pc := 1101) C dL_isSo_1101 8 rfl ?_
      refine V_mld (pc := 1103) C hT tb1_arr (n := 64) (c9 := 109) rfl rfl rfl h dL_isSo_1103 (fun h => ?_)
      refine V_iadd (pc := 1104) C dL_isSo_1104 ?_
      refine V_nI fun v25 e9 => ?_
      replace h := h v25 e9; clear e9
      refine V_istore (pc := 1105) C dL_isSo_1105 (by decide) rfl ?_
      refine V_iinc (pc := 1107) C (a := 8) (v := x20 + 1) dL_isSo_1107 rfl rfl (by decide) rfl ?_
      refine V_goto (pc := 1110) (tgt := 1090) C dL_isSo_1110 (by decide) ?_
      refine V_sub [2, 3, 4, 5, 6, 7, 8, 1, 0] rfl ?_
      exact ih h
def w_L_isSo_1032  (Q : Nat → Int32 → Sg → Prop) (x12 : Int32) (x15 : Int32) (S : Sg) : Prop := (vp_in 7 8 ∧ (∀ v26, v26 = (S.1 112 (nt 7)) - 1 → ((v26 < 0 → w_L_isSo_1256  Q x15 S) ∧ (¬ v26 < 0 → ((x15 = 0 → w_L_isSo_1256  Q x15 S) ∧ (¬ x15 = 0 → (vp_in 7 8 ∧ (¬ (S.1 112 (nt 7)) = 0 ∧ (∀ v27, v27 = x12 - x12 / (S.1 112 (nt 7)) * (S.1 112 (nt 7)) → (vp_in v27 64 ∧ (vp_in ((S.1 108 (nt v27)) - (S.1 108 (nt v27)) / 8 * 8) 11 ∧ (vp_in (((S.1 106 (nt ((S.1 108 (nt v27)) - (S.1 108 (nt v27)) / 8 * 8))) / 4) - ((S.1 106 (nt ((S.1 108 (nt v27)) - (S.1 108 (nt v27)) / 8 * 8))) / 4) / 4 * 4) 7 ∧ (∀ v28, v28 = (S.1 103 (nt (((S.1 106 (nt ((S.1 108 (nt v27)) - (S.1 108 (nt v27)) / 8 * 8))) / 4) - ((S.1 106 (nt ((S.1 108 (nt v27)) - (S.1 108 (nt v27)) / 8 * 8))) / 4) / 4 * 4))) / 8 → ∃ n9, w_L_isSo_1090  Q n9 v26 v27 v28 0 v27 S)))))))))))))
theorem k_L_isSo_1032 (hT : xT X = tb1) (hl : l.stackTraces = false) (C : Cn X k0 p l R s m meth c cL_isSo RL 23 14 321) (hr : meth.sig.returnType = (some .boolean)) (hnm : meth.name = yL_isSo.name) (htab : (∀ x ∈ c.exceptionTable.toList, False))  {x12 : Int32} {x15 : Int32} {S : Sg} (h : w_L_isSo_1032  Qa x12 x15 S) : V X p l e R s m args below meth c 23 (QM X below args s S0 ad0 rvI Qa) S0 ad0 S 1032 [(0, Value.ref (enc 0 0)), (1, Value.ref (enc 13 3)), (4, Value.ref (enc 13 6)), (6, Value.ref (enc 13 8)), (7, Value.ref (enc 13 9)), (10, Value.ref (enc 13 12)), (12, Value.int x12), (15, Value.int x15)] [] := by
  refine V_aload (pc := 1032) C dL_isSo_1032 5 rfl ?_
  refine V_bipush (pc := 1034) C (v := 7) dL_isSo_1034 rfl ?_
  refine V_mld (pc := 1036) C hT tb1_arr (n := 8) (c9 := 112) rfl rfl rfl h dL_isSo_1036 (fun h => ?_)
  refine V_iconst (pc := 1037) C (v := 1) dL_isSo_1037 rfl ?_
  refine V_isub (pc := 1038) C dL_isSo_1038 ?_
  refine V_nI fun v26 e9 => ?_
  replace h := h v26 e9; clear e9
  refine V_istore (pc := 1039) C dL_isSo_1039 (by decide) rfl ?_
  refine V_iload (pc := 1041) C dL_isSo_1041 0 rfl ?_
  refine V_if_lt (pc := 1043) (tgt := 1256) C dL_isSo_1043 (by decide) h (fun h => ?_) (fun h => ?_)
  · refine V_sub [1, 6, 8] rfl ?_
    exact k_L_isSo_1256 hT hl C hr hnm htab  h
  · refine V_iload (pc := 1046) C dL_isSo_1046 8 rfl ?_
    refine V_if_eq (pc := 1048) (tgt := 1256) C dL_isSo_1048 (by decide) h (fun h => ?_) (fun h => ?_)
    · refine V_sub [1, 6, 8] rfl ?_
      exact k_L_isSo_1256 hT hl C hr hnm htab  h
    · refine V_iload (pc := 1051) C dL_isSo_1051 7 rfl ?_
      refine V_aload (pc := 1053) C dL_isSo_1053 6 rfl ?_
      refine V_bipush (pc := 1055) C (v := 7) dL_isSo_1055 rfl ?_
      refine V_mld (pc := 1057) C hT tb1_arr (n := 8) (c9 := 112) rfl rfl rfl h dL_isSo_1057 (fun h => ?_)
      refine V_irem (pc := 1058) C dL_isSo_1058 h.1 ?_
      replace h := h.2
      refine V_nI fun v27 e9 => ?_
      replace h := h v27 e9; clear e9
      refine V_istore (pc := 1059) C dL_isSo_1059 (by decide) rfl ?_
      refine V_aload_n (pc := 1061) C dL_isSo_1061 rfl 3 rfl ?_
      refine V_aload (pc := 1062) C dL_isSo_1062 4 rfl ?_
      refine V_aload (pc := 1064) C dL_isSo_1064 5 rfl ?_
      refine V_iload (pc := 1066) C dL_isSo_1066 0 rfl ?_
      refine V_mld (pc := 1068) C hT tb1_arr (n := 64) (c9 := 108) rfl rfl rfl h dL_isSo_1068 (fun h => ?_)
      refine V_bipush (pc := 1069) C (v := 8) dL_isSo_1069 rfl ?_
      refine V_irem (pc := 1071) C dL_isSo_1071 (by decide) ?_
      refine V_mld (pc := 1072) C hT tb1_arr (n := 11) (c9 := 106) rfl rfl rfl h dL_isSo_1072 (fun h => ?_)
      refine V_iconst (pc := 1073) C (v := 4) dL_isSo_1073 rfl ?_
      refine V_idiv (pc := 1074) C dL_isSo_1074 (by decide) ?_
      refine V_iconst (pc := 1075) C (v := 4) dL_isSo_1075 rfl ?_
      refine V_irem (pc := 1076) C dL_isSo_1076 (by decide) ?_
      refine V_mld (pc := 1077) C hT tb1_arr (n := 7) (c9 := 103) rfl rfl rfl h dL_isSo_1077 (fun h => ?_)
      refine V_bipush (pc := 1078) C (v := 8) dL_isSo_1078 rfl ?_
      refine V_idiv (pc := 1080) C dL_isSo_1080 (by decide) ?_
      refine V_nI fun v28 e9 => ?_
      replace h := h v28 e9; clear e9
      refine V_istore (pc := 1081) C dL_isSo_1081 (by decide) rfl ?_
      refine V_iconst (pc := 1083) C (v := 0) dL_isSo_1083 rfl ?_
      refine V_istore (pc := 1084) C dL_isSo_1084 (by decide) rfl ?_
      refine V_iload (pc := 1086) C dL_isSo_1086 2 rfl ?_
      refine V_istore (pc := 1088) C dL_isSo_1088 (by decide) rfl ?_
      refine V_sub [5, 8, 9, 10, 4, 3, 2, 1, 0] rfl ?_
      obtain ⟨n9, h⟩ := h
      exact k_L_isSo_1090 hT hl C hr hnm htab  n9 h
def w_L_isSo_1024 (k771 : Int32 → Int32 → Int32 → Int32 → Sg → Prop) (Q : Nat → Int32 → Sg → Prop) (x11 : Int32) (x12 : Int32) (x16 : Int32) (y0 : Int32) (S : Sg) : Prop := k771 x11 x12 y0 (x16 + 1) S
theorem k_L_isSo_1024 (hT : xT X = tb1) (hl : l.stackTraces = false) (C : Cn X k0 p l R s m meth c cL_isSo RL 23 14 321) (hr : meth.sig.returnType = (some .boolean)) (hnm : meth.name = yL_isSo.name) (htab : (∀ x ∈ c.exceptionTable.toList, False)) {k771 : Int32 → Int32 → Int32 → Int32 → Sg → Prop} (hk771 : ∀ {x11 : Int32} {x12 : Int32} {x15 : Int32} {x16 : Int32} {S : Sg}, k771 x11 x12 x15 x16 S → V X p l e R s m args below meth c 23 (QM X below args s S0 ad0 rvI Qa) S0 ad0 S 771 [(0, Value.ref (enc 0 0)), (1, Value.ref (enc 13 3)), (2, Value.ref (enc 13 4)), (4, Value.ref (enc 13 6)), (6, Value.ref (enc 13 8)), (7, Value.ref (enc 13 9)), (10, Value.ref (enc 13 12)), (11, Value.int x11), (12, Value.int x12), (15, Value.int x15), (16, Value.int x16)] []) {x11 : Int32} {x12 : Int32} {x16 : Int32} {y0 : Int32} {S : Sg} (h : w_L_isSo_1024 k771 Qa x11 x12 x16 y0 S) : V X p l e R s m args below meth c 23 (QM X below args s S0 ad0 rvI Qa) S0 ad0 S 1024 [(0, Value.ref (enc 0 0)), (1, Value.ref (enc 13 3)), (2, Value.ref (enc 13 4)), (4, Value.ref (enc 13 6)), (6, Value.ref (enc 13 8)), (7, Value.ref (enc 13 9)), (10, Value.ref (enc 13 12)), (11, Value.int x11), (12, Value.int x12), (16, Value.int x16)] [Value.int y0] := by
  refine V_istore (pc := 1024) C dL_isSo_1024 (by decide) rfl ?_
  refine V_iinc (pc := 1026) C (a := 10) (v := x16 + 1) dL_isSo_1026 rfl rfl (by decide) rfl ?_
  refine V_goto (pc := 1029) (tgt := 771) C dL_isSo_1029 (by decide) ?_
  refine V_sub [2, 3, 4, 5, 6, 7, 8, 9, 10, 1, 0] rfl ?_
  exact hk771 h
def w_L_isSo_1023 (k771 : Int32 → Int32 → Int32 → Int32 → Sg → Prop) (Q : Nat → Int32 → Sg → Prop) (x11 : Int32) (x12 : Int32) (x16 : Int32) (S : Sg) : Prop := w_L_isSo_1024 k771 Q x11 x12 x16 0 S
theorem k_L_isSo_1023 (hT : xT X = tb1) (hl : l.stackTraces = false) (C : Cn X k0 p l R s m meth c cL_isSo RL 23 14 321) (hr : meth.sig.returnType = (some .boolean)) (hnm : meth.name = yL_isSo.name) (htab : (∀ x ∈ c.exceptionTable.toList, False)) {k771 : Int32 → Int32 → Int32 → Int32 → Sg → Prop} (hk771 : ∀ {x11 : Int32} {x12 : Int32} {x15 : Int32} {x16 : Int32} {S : Sg}, k771 x11 x12 x15 x16 S → V X p l e R s m args below meth c 23 (QM X below args s S0 ad0 rvI Qa) S0 ad0 S 771 [(0, Value.ref (enc 0 0)), (1, Value.ref (enc 13 3)), (2, Value.ref (enc 13 4)), (4, Value.ref (enc 13 6)), (6, Value.ref (enc 13 8)), (7, Value.ref (enc 13 9)), (10, Value.ref (enc 13 12)), (11, Value.int x11), (12, Value.int x12), (15, Value.int x15), (16, Value.int x16)] []) {x11 : Int32} {x12 : Int32} {x16 : Int32} {S : Sg} (h : w_L_isSo_1023 k771 Qa x11 x12 x16 S) : V X p l e R s m args below meth c 23 (QM X below args s S0 ad0 rvI Qa) S0 ad0 S 1023 [(0, Value.ref (enc 0 0)), (1, Value.ref (enc 13 3)), (2, Value.ref (enc 13 4)), (4, Value.ref (enc 13 6)), (6, Value.ref (enc 13 8)), (7, Value.ref (enc 13 9)), (10, Value.ref (enc 13 12)), (11, Value.int x11), (12, Value.int x12), (16, Value.int x16)] [] := by
  refine V_iconst (pc := 1023) C (v := 0) dL_isSo_1023 rfl ?_
  refine V_sub [0, 1, 2, 3, 4, 5, 6, 7, 8, 9] rfl ?_
  exact k_L_isSo_1024 hT hl C hr hnm htab (fun h => hk771 h) h
def w_L_isSo_1016 (k771 : Int32 → Int32 → Int32 → Int32 → Sg → Prop) (Q : Nat → Int32 → Sg → Prop) (x11 : Int32) (x12 : Int32) (x16 : Int32) (y0 : Int32) (y1 : Int32) (S : Sg) : Prop := ((y1 = y0 → w_L_isSo_1024 k771 Q x11 x12 x16 1 S) ∧ (¬ y1 = y0 → w_L_isSo_1023 k771 Q x11 x12 x16 S))
theorem k_L_isSo_1016 (hT : xT X = tb1) (hl : l.stackTraces = false) (C : Cn X k0 p l R s m meth c cL_isSo RL 23 14 321) (hr : meth.sig.returnType = (some .boolean)) (hnm : meth.name = yL_isSo.name) (htab : (∀ x ∈ c.exceptionTable.toList, False)) {k771 : Int32 → Int32 → Int32 → Int32 → Sg → Prop} (hk771 : ∀ {x11 : Int32} {x12 : Int32} {x15 : Int32} {x16 : Int32} {S : Sg}, k771 x11 x12 x15 x16 S → V X p l e R s m args below meth c 23 (QM X below args s S0 ad0 rvI Qa) S0 ad0 S 771 [(0, Value.ref (enc 0 0)), (1, Value.ref (enc 13 3)), (2, Value.ref (enc 13 4)), (4, Value.ref (enc 13 6)), (6, Value.ref (enc 13 8)), (7, Value.ref (enc 13 9)), (10, Value.ref (enc 13 12)), (11, Value.int x11), (12, Value.int x12), (15, Value.int x15), (16, Value.int x16)] []) {x11 : Int32} {x12 : Int32} {x16 : Int32} {y0 : Int32} {y1 : Int32} {S : Sg} (h : w_L_isSo_1016 k771 Qa x11 x12 x16 y0 y1 S) : V X p l e R s m args below meth c 23 (QM X below args s S0 ad0 rvI Qa) S0 ad0 S 1016 [(0, Value.ref (enc 0 0)), (1, Value.ref (enc 13 3)), (2, Value.ref (enc 13 4)), (4, Value.ref (enc 13 6)), (6, Value.ref (enc 13 8)), (7, Value.ref (enc 13 9)), (10, Value.ref (enc 13 12)), (11, Value.int x11), (12, Value.int x12), (16, Value.int x16)] [Value.int y0, Value.int y1] := by
  refine V_icmp_ne (pc := 1016) (tgt := 1023) C dL_isSo_1016 (by decide) h (fun h => ?_) (fun h => ?_)
  · refine V_sub [0, 1, 2, 3, 4, 5, 6, 7, 8, 9] rfl ?_
    exact k_L_isSo_1023 hT hl C hr hnm htab (fun h => hk771 h) h
  · refine V_iconst (pc := 1019) C (v := 1) dL_isSo_1019 rfl ?_
    refine V_goto (pc := 1020) (tgt := 1024) C dL_isSo_1020 (by decide) ?_
    refine V_sub [0, 1, 2, 3, 4, 5, 6, 7, 8, 9] rfl ?_
    exact k_L_isSo_1024 hT hl C hr hnm htab (fun h => hk771 h) h
def w_L_isSo_1015 (k771 : Int32 → Int32 → Int32 → Int32 → Sg → Prop) (Q : Nat → Int32 → Sg → Prop) (x11 : Int32) (x12 : Int32) (x16 : Int32) (y0 : Int32) (S : Sg) : Prop := w_L_isSo_1016 k771 Q x11 x12 x16 0 y0 S
theorem k_L_isSo_1015 (hT : xT X = tb1) (hl : l.stackTraces = false) (C : Cn X k0 p l R s m meth c cL_isSo RL 23 14 321) (hr : meth.sig.returnType = (some .boolean)) (hnm : meth.name = yL_isSo.name) (htab : (∀ x ∈ c.exceptionTable.toList, False)) {k771 : Int32 → Int32 → Int32 → Int32 → Sg → Prop} (hk771 : ∀ {x11 : Int32} {x12 : Int32} {x15 : Int32} {x16 : Int32} {S : Sg}, k771 x11 x12 x15 x16 S → V X p l e R s m args below meth c 23 (QM X below args s S0 ad0 rvI Qa) S0 ad0 S 771 [(0, Value.ref (enc 0 0)), (1, Value.ref (enc 13 3)), (2, Value.ref (enc 13 4)), (4, Value.ref (enc 13 6)), (6, Value.ref (enc 13 8)), (7, Value.ref (enc 13 9)), (10, Value.ref (enc 13 12)), (11, Value.int x11), (12, Value.int x12), (15, Value.int x15), (16, Value.int x16)] []) {x11 : Int32} {x12 : Int32} {x16 : Int32} {y0 : Int32} {S : Sg} (h : w_L_isSo_1015 k771 Qa x11 x12 x16 y0 S) : V X p l e R s m args below meth c 23 (QM X below args s S0 ad0 rvI Qa) S0 ad0 S 1015 [(0, Value.ref (enc 0 0)), (1, Value.ref (enc 13 3)), (2, Value.ref (enc 13 4)), (4, Value.ref (enc 13 6)), (6, Value.ref (enc 13 8)), (7, Value.ref (enc 13 9)), (10, Value.ref (enc 13 12)), (11, Value.int x11), (12, Value.int x12), (16, Value.int x16)] [Value.int y0] := by
  refine V_iconst (pc := 1015) C (v := 0) dL_isSo_1015 rfl ?_
  refine V_sub [0, 1, 2, 3, 4, 5, 6, 7, 8, 9] rfl ?_
  exact k_L_isSo_1016 hT hl C hr hnm htab (fun h => hk771 h) h
def w_L_isSo_980 (k771 : Int32 → Int32 → Int32 → Int32 → Sg → Prop) (Q : Nat → Int32 → Sg → Prop) (x11 : Int32) (x12 : Int32) (x16 : Int32) (x17 : Int32) (x18 : Int32) (y0 : Int32) (y1 : Int32) (S : Sg) : Prop := ((y1 = y0 → (w_X7_mustStay x16 x17 S (fun k31 v30 S29 => (k31 = 0 → (vp_in ((8 * x16) + 7) 24 ∧ ((x18 < (S29.1 104 (nt ((8 * x16) + 7))) → w_L_isSo_1015 k771 Q x11 x12 x16 v30 S29) ∧ (¬ x18 < (S29.1 104 (nt ((8 * x16) + 7))) → ((x18 < 0 → w_L_isSo_1015 k771 Q x11 x12 x16 v30 S29) ∧ (¬ x18 < 0 → w_L_isSo_1016 k771 Q x11 x12 x16 1 v30 S29)))))) ∧ (¬ k31 = 0 → Q k31 0 S29)))) ∧ (¬ y1 = y0 → w_L_isSo_1023 k771 Q x11 x12 x16 S))
theorem k_L_isSo_980 (hT : xT X = tb1) (hl : l.stackTraces = false) (C : Cn X k0 p l R s m meth c cL_isSo RL 23 14 321) (hr : meth.sig.returnType = (some .boolean)) (hnm : meth.name = yL_isSo.name) (htab : (∀ x ∈ c.exceptionTable.toList, False)) {k771 : Int32 → Int32 → Int32 → Int32 → Sg → Prop} (hk771 : ∀ {x11 : Int32} {x12 : Int32} {x15 : Int32} {x16 : Int32} {S : Sg}, k771 x11 x12 x15 x16 S → V X p l e R s m args below meth c 23 (QM X below args s S0 ad0 rvI Qa) S0 ad0 S 771 [(0, Value.ref (enc 0 0)), (1, Value.ref (enc 13 3)), (2, Value.ref (enc 13 4)), (4, Value.ref (enc 13 6)), (6, Value.ref (enc 13 8)), (7, Value.ref (enc 13 9)), (10, Value.ref (enc 13 12)), (11, Value.int x11), (12, Value.int x12), (15, Value.int x15), (16, Value.int x16)] []) {x11 : Int32} {x12 : Int32} {x16 : Int32} {x17 : Int32} {x18 : Int32} {y0 : Int32} {y1 : Int32} {S : Sg} (h : w_L_isSo_980 k771 Qa x11 x12 x16 x17 x18 y0 y1 S) : V X p l e R s m args below meth c 23 (QM X below args s S0 ad0 rvI Qa) S0 ad0 S 980 [(0, Value.ref (enc 0 0)), (1, Value.ref (enc 13 3)), (2, Value.ref (enc 13 4)), (4, Value.ref (enc 13 6)), (6, Value.ref (enc 13 8)), (7, Value.ref (enc 13 9)), (10, Value.ref (enc 13 12)), (11, Value.int x11), (12, Value.int x12), (16, Value.int x16), (17, Value.int x17), (18, Value.int x18)] [Value.int y0, Value.int y1] := by
  refine V_icmp_ne (pc := 980) (tgt := 1023) C dL_isSo_980 (by decide) h (fun h => ?_) (fun h => ?_)
  · refine V_sub [0, 1, 2, 3, 4, 5, 6, 7, 8, 9] rfl ?_
    exact k_L_isSo_1023 hT hl C hr hnm htab (fun h => hk771 h) h
  · refine V_aload_n (pc := 983) C dL_isSo_983 rfl 0 rfl ?_
    refine V_iload (pc := 984) C dL_isSo_984 9 rfl ?_
    refine V_iload (pc := 986) C dL_isSo_986 10 rfl ?_
    refine V_callV (pc := 988) C (ct_X7_mustStay hT hl h) g863 g864 g865 g866 g33 ⟨by decide, by decide, pl_X7_mustStay⟩ (enc_ne63 (by decide)) (ct_obj hT rfl (by decide)) rfl ⟨by decide, by decide⟩ (rest := []) rfl (le8 rfl) dL_isSo_988 (fun v30 S29 h => ?_) (fun k9 S9 hk h => VX_out C htab hk (h.2 (by omega)))
    replace h := h.1 rfl
    refine V_st (st' := [Value.int v30]) rfl ?_
    refine V_iload (pc := 991) C dL_isSo_991 11 rfl ?_
    refine V_aload_n (pc := 993) C dL_isSo_993 rfl 2 rfl ?_
    refine V_bipush (pc := 994) C (v := 8) dL_isSo_994 rfl ?_
    refine V_iload (pc := 996) C dL_isSo_996 9 rfl ?_
    refine V_imul (pc := 998) C dL_isSo_998 ?_
    refine V_bipush (pc := 999) C (v := 7) dL_isSo_999 rfl ?_
    refine V_iadd (pc := 1001) C dL_isSo_1001 ?_
    refine V_mld (pc := 1002) C hT tb1_arr (n := 24) (c9 := 104) rfl rfl rfl h dL_isSo_1002 (fun h => ?_)
    refine V_icmp_lt (pc := 1003) (tgt := 1015) C dL_isSo_1003 (by decide) h (fun h => ?_) (fun h => ?_)
    · refine V_sub [0, 1, 2, 3, 4, 5, 6, 7, 8, 9] rfl ?_
      exact k_L_isSo_1015 hT hl C hr hnm htab (fun h => hk771 h) h
    · refine V_iload (pc := 1006) C dL_isSo_1006 11 rfl ?_
      refine V_if_lt (pc := 1008) (tgt := 1015) C dL_isSo_1008 (by decide) h (fun h => ?_) (fun h => ?_)
      · refine V_sub [0, 1, 2, 3, 4, 5, 6, 7, 8, 9] rfl ?_
        exact k_L_isSo_1015 hT hl C hr hnm htab (fun h => hk771 h) h
      · refine V_iconst (pc := 1011) C (v := 1) dL_isSo_1011 rfl ?_
        refine V_goto (pc := 1012) (tgt := 1016) C dL_isSo_1012 (by decide) ?_
        refine V_sub [0, 1, 2, 3, 4, 5, 6, 7, 8, 9] rfl ?_
        exact k_L_isSo_1016 hT hl C hr hnm htab (fun h => hk771 h) h
def w_L_isSo_913 (k771 : Int32 → Int32 → Int32 → Int32 → Sg → Prop) (Q : Nat → Int32 → Sg → Prop) (x11 : Int32) (x12 : Int32) (x16 : Int32) (x17 : Int32) (x18 : Int32) (x19 : Int32) (y0 : Int32) (S : Sg) : Prop := (vp_in ((8 * x16) + 5) 24 ∧ (∀ v32, v32 = ((S.1 104 (nt ((8 * x16) + 5))) * x19) / 100 → (w_X7_takings x16 x17 S (fun k35 v34 S33 => (k35 = 0 → ((v34 = x19 → (w_X7_takingsAnew x16 x17 S33 (fun k38 v37 S36 => (k38 = 0 → ((v37 = x19 → (w_X7_share x16 x17 S36 (fun k41 v40 S39 => (k41 = 0 → ((y0 ≤ v32 → w_L_isSo_980 k771 Q x11 x12 x16 x17 x18 v32 v40 S39) ∧ (¬ y0 ≤ v32 → w_L_isSo_980 k771 Q x11 x12 x16 x17 x18 y0 v40 S39))) ∧ (¬ k41 = 0 → Q k41 0 S39)))) ∧ (¬ v37 = x19 → w_L_isSo_1023 k771 Q x11 x12 x16 S36))) ∧ (¬ k38 = 0 → Q k38 0 S36)))) ∧ (¬ v34 = x19 → w_L_isSo_1023 k771 Q x11 x12 x16 S33))) ∧ (¬ k35 = 0 → Q k35 0 S33)))))
theorem k_L_isSo_913 (hT : xT X = tb1) (hl : l.stackTraces = false) (C : Cn X k0 p l R s m meth c cL_isSo RL 23 14 321) (hr : meth.sig.returnType = (some .boolean)) (hnm : meth.name = yL_isSo.name) (htab : (∀ x ∈ c.exceptionTable.toList, False)) {k771 : Int32 → Int32 → Int32 → Int32 → Sg → Prop} (hk771 : ∀ {x11 : Int32} {x12 : Int32} {x15 : Int32} {x16 : Int32} {S : Sg}, k771 x11 x12 x15 x16 S → V X p l e R s m args below meth c 23 (QM X below args s S0 ad0 rvI Qa) S0 ad0 S 771 [(0, Value.ref (enc 0 0)), (1, Value.ref (enc 13 3)), (2, Value.ref (enc 13 4)), (4, Value.ref (enc 13 6)), (6, Value.ref (enc 13 8)), (7, Value.ref (enc 13 9)), (10, Value.ref (enc 13 12)), (11, Value.int x11), (12, Value.int x12), (15, Value.int x15), (16, Value.int x16)] []) {x11 : Int32} {x12 : Int32} {x16 : Int32} {x17 : Int32} {x18 : Int32} {x19 : Int32} {y0 : Int32} {S : Sg} (h : w_L_isSo_913 k771 Qa x11 x12 x16 x17 x18 x19 y0 S) : V X p l e R s m args below meth c 23 (QM X below args s S0 ad0 rvI Qa) S0 ad0 S 913 [(0, Value.ref (enc 0 0)), (1, Value.ref (enc 13 3)), (2, Value.ref (enc 13 4)), (4, Value.ref (enc 13 6)), (6, Value.ref (enc 13 8)), (7, Value.ref (enc 13 9)), (10, Value.ref (enc 13 12)), (11, Value.int x11), (12, Value.int x12), (16, Value.int x16), (17, Value.int x17), (18, Value.int x18), (19, Value.int x19)] [Value.int y0] := by
  refine V_istore (pc := 913) C dL_isSo_913 (by decide) rfl ?_
  refine V_aload_n (pc := 915) C dL_isSo_915 rfl 3 rfl ?_
  refine V_bipush (pc := 916) C (v := 8) dL_isSo_916 rfl ?_
  refine V_iload (pc := 918) C dL_isSo_918 10 rfl ?_
  refine V_imul (pc := 920) C dL_isSo_920 ?_
  refine V_iconst (pc := 921) C (v := 5) dL_isSo_921 rfl ?_
  refine V_iadd (pc := 922) C dL_isSo_922 ?_
  refine V_mld (pc := 923) C hT tb1_arr (n := 24) (c9 := 104) rfl rfl rfl h dL_isSo_923 (fun h => ?_)
  refine V_iload (pc := 924) C dL_isSo_924 13 rfl ?_
  refine V_imul (pc := 926) C dL_isSo_926 ?_
  refine V_bipush (pc := 927) C (v := 100) dL_isSo_927 rfl ?_
  refine V_idiv (pc := 929) C dL_isSo_929 (by decide) ?_
  refine V_nI fun v32 e9 => ?_
  replace h := h v32 e9; clear e9
  refine V_istore (pc := 930) C dL_isSo_930 (by decide) rfl ?_
  refine V_aload_n (pc := 932) C dL_isSo_932 rfl 2 rfl ?_
  refine V_iload (pc := 933) C dL_isSo_933 11 rfl ?_
  refine V_iload (pc := 935) C dL_isSo_935 12 rfl ?_
  refine V_callV (pc := 937) C (ct_X7_takings hT hl h) g834 g835 g836 g837 g33 ⟨by decide, by decide, pl_X7_takings⟩ (enc_ne63 (by decide)) (ct_obj hT rfl (by decide)) rfl ⟨by decide, by decide⟩ (rest := []) rfl (le8 rfl) dL_isSo_937 (fun v34 S33 h => ?_) (fun k9 S9 hk h => VX_out C htab hk (h.2 (by omega)))
  replace h := h.1 rfl
  refine V_st (st' := [Value.int v34]) rfl ?_
  refine V_iload (pc := 940) C dL_isSo_940 14 rfl ?_
  refine V_icmp_ne (pc := 942) (tgt := 1023) C dL_isSo_942 (by decide) h (fun h => ?_) (fun h => ?_)
  · refine V_sub [2, 3, 4, 5, 6, 7, 8, 9, 10, 11] rfl ?_
    exact k_L_isSo_1023 hT hl C hr hnm htab (fun h => hk771 h) h
  · refine V_aload_n (pc := 945) C dL_isSo_945 rfl 2 rfl ?_
    refine V_iload (pc := 946) C dL_isSo_946 11 rfl ?_
    refine V_iload (pc := 948) C dL_isSo_948 12 rfl ?_
    refine V_callV (pc := 950) C (ct_X7_takingsAnew hT hl h) g850 g851 g852 g853 g33 ⟨by decide, by decide, pl_X7_takingsAnew⟩ (enc_ne63 (by decide)) (ct_obj hT rfl (by decide)) rfl ⟨by decide, by decide⟩ (rest := []) rfl (le8 rfl) dL_isSo_950 (fun v37 S36 h => ?_) (fun k9 S9 hk h => VX_out C htab hk (h.2 (by omega)))
    replace h := h.1 rfl
    refine V_st (st' := [Value.int v37]) rfl ?_
    refine V_iload (pc := 953) C dL_isSo_953 14 rfl ?_
    refine V_icmp_ne (pc := 955) (tgt := 1023) C dL_isSo_955 (by decide) h (fun h => ?_) (fun h => ?_)
    · refine V_sub [2, 3, 4, 5, 6, 7, 8, 9, 10, 11] rfl ?_
      exact k_L_isSo_1023 hT hl C hr hnm htab (fun h => hk771 h) h
    · refine V_aload_n (pc := 958) C dL_isSo_958 rfl 2 rfl ?_
      refine V_iload (pc := 959) C dL_isSo_959 11 rfl ?_
      refine V_iload (pc := 961) C dL_isSo_961 12 rfl ?_
      refine V_callV (pc := 963) C (ct_X7_share hT hl h) g854 g855 g856 g857 g33 ⟨by decide, by decide, pl_X7_share⟩ (enc_ne63 (by decide)) (ct_obj hT rfl (by decide)) rfl ⟨by decide, by decide⟩ (rest := []) rfl (le8 rfl) dL_isSo_963 (fun v40 S39 h => ?_) (fun k9 S9 hk h => VX_out C htab hk (h.2 (by omega)))
      replace h := h.1 rfl
      refine V_st (st' := [Value.int v40]) rfl ?_
      refine V_iload (pc := 966) C dL_isSo_966 1 rfl ?_
      refine V_iload (pc := 968) C dL_isSo_968 0 rfl ?_
      refine V_icmp_le (pc := 970) (tgt := 978) C dL_isSo_970 (by decide) h (fun h => ?_) (fun h => ?_)
      · refine V_iload (pc := 978) C dL_isSo_978 0 rfl ?_
        refine V_sub [2, 3, 4, 5, 6, 7, 8, 9, 10, 11, 12, 13] rfl ?_
        exact k_L_isSo_980 hT hl C hr hnm htab (fun h => hk771 h) h
      · refine V_iload (pc := 973) C dL_isSo_973 1 rfl ?_
        refine V_goto (pc := 975) (tgt := 980) C dL_isSo_975 (by decide) ?_
        refine V_sub [2, 3, 4, 5, 6, 7, 8, 9, 10, 11, 12, 13] rfl ?_
        exact k_L_isSo_980 hT hl C hr hnm htab (fun h => hk771 h) h
def w_L_isSo_873 (k771 : Int32 → Int32 → Int32 → Int32 → Sg → Prop) (Q : Nat → Int32 → Sg → Prop) (x11 : Int32) (x12 : Int32) (x16 : Int32) (x17 : Int32) (x18 : Int32) (x19 : Int32) (y0 : Int32) (S : Sg) : Prop := (vp_in ((8 * x16) + 6) 24 ∧ ((x19 ≤ (S.1 104 (nt ((8 * x16) + 6))) → w_L_isSo_913 k771 Q x11 x12 x16 x17 x18 x19 0 S) ∧ (¬ x19 ≤ (S.1 104 (nt ((8 * x16) + 6))) → (vp_in ((8 * x16) + 6) 24 ∧ w_L_isSo_913 k771 Q x11 x12 x16 x17 x18 x19 ((y0 * (x19 - (S.1 104 (nt ((8 * x16) + 6))))) / 100) S))))
theorem k_L_isSo_873 (hT : xT X = tb1) (hl : l.stackTraces = false) (C : Cn X k0 p l R s m meth c cL_isSo RL 23 14 321) (hr : meth.sig.returnType = (some .boolean)) (hnm : meth.name = yL_isSo.name) (htab : (∀ x ∈ c.exceptionTable.toList, False)) {k771 : Int32 → Int32 → Int32 → Int32 → Sg → Prop} (hk771 : ∀ {x11 : Int32} {x12 : Int32} {x15 : Int32} {x16 : Int32} {S : Sg}, k771 x11 x12 x15 x16 S → V X p l e R s m args below meth c 23 (QM X below args s S0 ad0 rvI Qa) S0 ad0 S 771 [(0, Value.ref (enc 0 0)), (1, Value.ref (enc 13 3)), (2, Value.ref (enc 13 4)), (4, Value.ref (enc 13 6)), (6, Value.ref (enc 13 8)), (7, Value.ref (enc 13 9)), (10, Value.ref (enc 13 12)), (11, Value.int x11), (12, Value.int x12), (15, Value.int x15), (16, Value.int x16)] []) {x11 : Int32} {x12 : Int32} {x16 : Int32} {x17 : Int32} {x18 : Int32} {x19 : Int32} {y0 : Int32} {S : Sg} (h : w_L_isSo_873 k771 Qa x11 x12 x16 x17 x18 x19 y0 S) : V X p l e R s m args below meth c 23 (QM X below args s S0 ad0 rvI Qa) S0 ad0 S 873 [(0, Value.ref (enc 0 0)), (1, Value.ref (enc 13 3)), (2, Value.ref (enc 13 4)), (4, Value.ref (enc 13 6)), (6, Value.ref (enc 13 8)), (7, Value.ref (enc 13 9)), (10, Value.ref (enc 13 12)), (11, Value.int x11), (12, Value.int x12), (16, Value.int x16), (17, Value.int x17), (18, Value.int x18), (19, Value.int x19)] [Value.int y0] := by
  refine V_istore (pc := 873) C dL_isSo_873 (by decide) rfl ?_
  refine V_iload (pc := 875) C dL_isSo_875 13 rfl ?_
  refine V_aload_n (pc := 877) C dL_isSo_877 rfl 3 rfl ?_
  refine V_bipush (pc := 878) C (v := 8) dL_isSo_878 rfl ?_
  refine V_iload (pc := 880) C dL_isSo_880 10 rfl ?_
  refine V_imul (pc := 882) C dL_isSo_882 ?_
  refine V_bipush (pc := 883) C (v := 6) dL_isSo_883 rfl ?_
  refine V_iadd (pc := 885) C dL_isSo_885 ?_
  refine V_mld (pc := 886) C hT tb1_arr (n := 24) (c9 := 104) rfl rfl rfl h dL_isSo_886 (fun h => ?_)
  refine V_icmp_le (pc := 887) (tgt := 912) C dL_isSo_887 (by decide) h (fun h => ?_) (fun h => ?_)
  · refine V_iconst (pc := 912) C (v := 0) dL_isSo_912 rfl ?_
    refine V_sub [1, 2, 3, 4, 5, 6, 7, 8, 9, 10, 11, 12, 13] rfl ?_
    exact k_L_isSo_913 hT hl C hr hnm htab (fun h => hk771 h) h
  · refine V_iload (pc := 890) C dL_isSo_890 0 rfl ?_
    refine V_iload (pc := 892) C dL_isSo_892 13 rfl ?_
    refine V_aload_n (pc := 894) C dL_isSo_894 rfl 3 rfl ?_
    refine V_bipush (pc := 895) C (v := 8) dL_isSo_895 rfl ?_
    refine V_iload (pc := 897) C dL_isSo_897 10 rfl ?_
    refine V_imul (pc := 899) C dL_isSo_899 ?_
    refine V_bipush (pc := 900) C (v := 6) dL_isSo_900 rfl ?_
    refine V_iadd (pc := 902) C dL_isSo_902 ?_
    refine V_mld (pc := 903) C hT tb1_arr (n := 24) (c9 := 104) rfl rfl rfl h dL_isSo_903 (fun h => ?_)
    refine V_isub (pc := 904) C dL_isSo_904 ?_
    refine V_imul (pc := 905) C dL_isSo_905 ?_
    refine V_bipush (pc := 906) C (v := 100) dL_isSo_906 rfl ?_
    refine V_idiv (pc := 908) C dL_isSo_908 (by decide) ?_
    refine V_goto (pc := 909) (tgt := 913) C dL_isSo_909 (by decide) ?_
    refine V_sub [1, 2, 3, 4, 5, 6, 7, 8, 9, 10, 11, 12, 13] rfl ?_
    exact k_L_isSo_913 hT hl C hr hnm htab (fun h => hk771 h) h
def w_L_isSo_819 (k771 : Int32 → Int32 → Int32 → Int32 → Sg → Prop) (Q : Nat → Int32 → Sg → Prop) (x11 : Int32) (x12 : Int32) (x16 : Int32) (x17 : Int32) (x18 : Int32) (y0 : Int32) (S : Sg) : Prop := (vp_in ((8 * x16) + 3) 24 ∧ (vp_in ((8 * x16) + 4) 24 ∧ (∀ v42, v42 = (S.1 104 (nt ((8 * x16) + 3))) - (x17 * (S.1 104 (nt ((8 * x16) + 4)))) → (vp_in ((8 * x16) + 5) 24 ∧ ((v42 ≤ (S.1 104 (nt ((8 * x16) + 5))) → (vp_in ((8 * x16) + 5) 24 ∧ w_L_isSo_873 k771 Q x11 x12 x16 x17 x18 y0 (S.1 104 (nt ((8 * x16) + 5))) S)) ∧ (¬ v42 ≤ (S.1 104 (nt ((8 * x16) + 5))) → w_L_isSo_873 k771 Q x11 x12 x16 x17 x18 y0 v42 S))))))
theorem k_L_isSo_819 (hT : xT X = tb1) (hl : l.stackTraces = false) (C : Cn X k0 p l R s m meth c cL_isSo RL 23 14 321) (hr : meth.sig.returnType = (some .boolean)) (hnm : meth.name = yL_isSo.name) (htab : (∀ x ∈ c.exceptionTable.toList, False)) {k771 : Int32 → Int32 → Int32 → Int32 → Sg → Prop} (hk771 : ∀ {x11 : Int32} {x12 : Int32} {x15 : Int32} {x16 : Int32} {S : Sg}, k771 x11 x12 x15 x16 S → V X p l e R s m args below meth c 23 (QM X below args s S0 ad0 rvI Qa) S0 ad0 S 771 [(0, Value.ref (enc 0 0)), (1, Value.ref (enc 13 3)), (2, Value.ref (enc 13 4)), (4, Value.ref (enc 13 6)), (6, Value.ref (enc 13 8)), (7, Value.ref (enc 13 9)), (10, Value.ref (enc 13 12)), (11, Value.int x11), (12, Value.int x12), (15, Value.int x15), (16, Value.int x16)] []) {x11 : Int32} {x12 : Int32} {x16 : Int32} {x17 : Int32} {x18 : Int32} {y0 : Int32} {S : Sg} (h : w_L_isSo_819 k771 Qa x11 x12 x16 x17 x18 y0 S) : V X p l e R s m args below meth c 23 (QM X below args s S0 ad0 rvI Qa) S0 ad0 S 819 [(0, Value.ref (enc 0 0)), (1, Value.ref (enc 13 3)), (2, Value.ref (enc 13 4)), (4, Value.ref (enc 13 6)), (6, Value.ref (enc 13 8)), (7, Value.ref (enc 13 9)), (10, Value.ref (enc 13 12)), (11, Value.int x11), (12, Value.int x12), (16, Value.int x16), (17, Value.int x17), (18, Value.int x18)] [Value.int y0] := by
  refine V_istore (pc := 819) C dL_isSo_819 (by decide) rfl ?_
  refine V_aload_n (pc := 821) C dL_isSo_821 rfl 3 rfl ?_
  refine V_bipush (pc := 822) C (v := 8) dL_isSo_822 rfl ?_
  refine V_iload (pc := 824) C dL_isSo_824 10 rfl ?_
  refine V_imul (pc := 826) C dL_isSo_826 ?_
  refine V_iconst (pc := 827) C (v := 3) dL_isSo_827 rfl ?_
  refine V_iadd (pc := 828) C dL_isSo_828 ?_
  refine V_mld (pc := 829) C hT tb1_arr (n := 24) (c9 := 104) rfl rfl rfl h dL_isSo_829 (fun h => ?_)
  refine V_iload (pc := 830) C dL_isSo_830 11 rfl ?_
  refine V_aload_n (pc := 832) C dL_isSo_832 rfl 3 rfl ?_
  refine V_bipush (pc := 833) C (v := 8) dL_isSo_833 rfl ?_
  refine V_iload (pc := 835) C dL_isSo_835 10 rfl ?_
  refine V_imul (pc := 837) C dL_isSo_837 ?_
  refine V_iconst (pc := 838) C (v := 4) dL_isSo_838 rfl ?_
  refine V_iadd (pc := 839) C dL_isSo_839 ?_
  refine V_mld (pc := 840) C hT tb1_arr (n := 24) (c9 := 104) rfl rfl rfl h dL_isSo_840 (fun h => ?_)
  refine V_imul (pc := 841) C dL_isSo_841 ?_
  refine V_isub (pc := 842) C dL_isSo_842 ?_
  refine V_nI fun v42 e9 => ?_
  replace h := h v42 e9; clear e9
  refine V_istore (pc := 843) C dL_isSo_843 (by decide) rfl ?_
  refine V_iload (pc := 845) C dL_isSo_845 0 rfl ?_
  refine V_aload_n (pc := 847) C dL_isSo_847 rfl 4 rfl ?_
  refine V_bipush (pc := 848) C (v := 8) dL_isSo_848 rfl ?_
  refine V_iload (pc := 850) C dL_isSo_850 11 rfl ?_
  refine V_imul (pc := 852) C dL_isSo_852 ?_
  refine V_iconst (pc := 853) C (v := 5) dL_isSo_853 rfl ?_
  refine V_iadd (pc := 854) C dL_isSo_854 ?_
  refine V_mld (pc := 855) C hT tb1_arr (n := 24) (c9 := 104) rfl rfl rfl h dL_isSo_855 (fun h => ?_)
  refine V_icmp_le (pc := 856) (tgt := 864) C dL_isSo_856 (by decide) h (fun h => ?_) (fun h => ?_)
  · refine V_aload_n (pc := 864) C dL_isSo_864 rfl 4 rfl ?_
    refine V_bipush (pc := 865) C (v := 8) dL_isSo_865 rfl ?_
    refine V_iload (pc := 867) C dL_isSo_867 11 rfl ?_
    refine V_imul (pc := 869) C dL_isSo_869 ?_
    refine V_iconst (pc := 870) C (v := 5) dL_isSo_870 rfl ?_
    refine V_iadd (pc := 871) C dL_isSo_871 ?_
    refine V_mld (pc := 872) C hT tb1_arr (n := 24) (c9 := 104) rfl rfl rfl h dL_isSo_872 (fun h => ?_)
    refine V_sub [2, 3, 4, 5, 6, 7, 8, 9, 10, 11, 12, 13, 1] rfl ?_
    exact k_L_isSo_873 hT hl C hr hnm htab (fun h => hk771 h) h
  · refine V_iload (pc := 859) C dL_isSo_859 0 rfl ?_
    refine V_goto (pc := 861) (tgt := 873) C dL_isSo_861 (by decide) ?_
    refine V_sub [2, 3, 4, 5, 6, 7, 8, 9, 10, 11, 12, 13, 1] rfl ?_
    exact k_L_isSo_873 hT hl C hr hnm htab (fun h => hk771 h) h
def w_L_isSo_771  (Q : Nat → Int32 → Sg → Prop) : Nat → Int32 → Int32 → Int32 → Int32 → Sg → Prop
  | 0, _, _, _, _, _ => False
  | n + 1, x11, x12, x15, x16, S => (vp_in 3 8 ∧ (((S.1 112 (nt 3)) ≤ x16 → w_L_isSo_1032  Q x12 x15 S) ∧ (¬ (S.1 112 (nt 3)) ≤ x16 → ((x15 = 0 → w_L_isSo_1032  Q x12 x15 S) ∧ (¬ x15 = 0 → (∀ v43, v43 = x11 - x11 / 3 * 3 → (w_L_takings x16 v43 S (fun k46 v45 S44 => (k46 = 0 → ((0 ≤ v45 → w_L_isSo_819 (fun x11 x12 x15 x16 S => w_L_isSo_771  Q n x11 x12 x15 x16 S) Q x11 x12 x16 v43 v45 v45 S44) ∧ (¬ 0 ≤ v45 → w_L_isSo_819 (fun x11 x12 x15 x16 S => w_L_isSo_771  Q n x11 x12 x15 x16 S) Q x11 x12 x16 v43 v45 0 S44))) ∧ (¬ k46 = 0 → Q k46 0 S44)))))))))
theorem k_L_isSo_771 (hT : xT X = tb1) (hl : l.stackTraces = false) (C : Cn X k0 p l R s m meth c cL_isSo RL 23 14 321) (hr : meth.sig.returnType = (some .boolean)) (hnm : meth.name = yL_isSo.name) (htab : (∀ x ∈ c.exceptionTable.toList, False))  : ∀ n {x11 : Int32} {x12 : Int32} {x15 : Int32} {x16 : Int32} {S : Sg}, w_L_isSo_771  Qa n x11 x12 x15 x16 S → V X p l e R s m args below meth c 23 (QM X below args s S0 ad0 rvI Qa) S0 ad0 S 771 [(0, Value.ref (enc 0 0)), (1, Value.ref (enc 13 3)), (2, Value.ref (enc 13 4)), (4, Value.ref (enc 13 6)), (6, Value.ref (enc 13 8)), (7, Value.ref (enc 13 9)), (10, Value.ref (enc 13 12)), (11, Value.int x11), (12, Value.int x12), (15, Value.int x15), (16, Value.int x16)] [] := by
  intro n
  induction n with
  | zero => intro x11 x12 x15 x16 S h; exact h.elim
  | succ n ih =>
    intro x11 x12 x15 x16 S h
    refine V_iload (pc := 771) C dL_isSo_771 10 rfl ?_
    refine V_aload (pc := 773) C dL_isSo_773 6 rfl ?_
    refine V_iconst (pc := 775) C (v := 3) dL_isSo_775 rfl ?_
    refine V_mld (pc := 776) C hT tb1_arr (n := 8) (c9 := 112) rfl rfl rfl h dL_isSo_776 (fun h => ?_)
    refine V_icmp_ge (pc := 777) (tgt := 1032) C dL_isSo_777 (by decide) h (fun h => ?_) (fun h => ?_)
    · refine V_sub [0, 1, 3, 4, 5, 6, 8, 9] rfl ?_
      exact k_L_isSo_1032 hT hl C hr hnm htab  h
    · refine V_iload (pc := 780) C dL_isSo_780 9 rfl ?_
      refine V_if_eq (pc := 782) (tgt := 1032) C dL_isSo_782 (by decide) h (fun h => ?_) (fun h => ?_)
      · refine V_sub [0, 1, 3, 4, 5, 6, 8, 9] rfl ?_
        exact k_L_isSo_1032 hT hl C hr hnm htab  h
      · refine V_iload (pc := 785) C dL_isSo_785 7 rfl ?_
        refine V_iconst (pc := 787) C (v := 3) dL_isSo_787 rfl ?_
        refine V_irem (pc := 788) C dL_isSo_788 (by decide) ?_
        refine V_nI fun v43 e9 => ?_
        replace h := h v43 e9; clear e9
        refine V_istore (pc := 789) C dL_isSo_789 (by decide) rfl ?_
        refine V_aload (pc := 791) C dL_isSo_791 4 rfl ?_
        refine V_aload (pc := 793) C dL_isSo_793 5 rfl ?_
        refine V_aload (pc := 795) C dL_isSo_795 6 rfl ?_
        refine V_aload (pc := 797) C dL_isSo_797 7 rfl ?_
        refine V_iload (pc := 799) C dL_isSo_799 11 rfl ?_
        refine V_iload (pc := 801) C dL_isSo_801 0 rfl ?_
        refine V_callS (pc := 803) C (ct_L_takings hT hl h) g831 g832 g833 g32 ⟨by decide, by decide, pl_L_takings⟩ ⟨by decide, by decide⟩ (rest := []) rfl (le8 rfl) dL_isSo_803 (fun v45 S44 h => ?_) (fun k9 S9 hk h => VX_out C htab hk (h.2 (by omega)))
        replace h := h.1 rfl
        refine V_st (st' := [Value.int v45]) rfl ?_
        refine V_istore (pc := 806) C dL_isSo_806 (by decide) rfl ?_
        refine V_iload (pc := 808) C dL_isSo_808 0 rfl ?_
        refine V_if_ge (pc := 810) (tgt := 817) C dL_isSo_810 (by decide) h (fun h => ?_) (fun h => ?_)
        · refine V_iload (pc := 817) C dL_isSo_817 0 rfl ?_
          refine V_sub [2, 3, 4, 5, 6, 7, 8, 9, 10, 12, 1, 0] rfl ?_
          exact k_L_isSo_819 hT hl C hr hnm htab (fun h => ih h) h
        · refine V_iconst (pc := 813) C (v := 0) dL_isSo_813 rfl ?_
          refine V_goto (pc := 814) (tgt := 819) C dL_isSo_814 (by decide) ?_
          refine V_sub [2, 3, 4, 5, 6, 7, 8, 9, 10, 12, 1, 0] rfl ?_
          exact k_L_isSo_819 hT hl C hr hnm htab (fun h => ih h) h
def w_L_isSo_768  (Q : Nat → Int32 → Sg → Prop) (x11 : Int32) (x12 : Int32) (x15 : Int32) (S : Sg) : Prop := ∃ n9, w_L_isSo_771  Q n9 x11 x12 x15 0 S
theorem k_L_isSo_768 (hT : xT X = tb1) (hl : l.stackTraces = false) (C : Cn X k0 p l R s m meth c cL_isSo RL 23 14 321) (hr : meth.sig.returnType = (some .boolean)) (hnm : meth.name = yL_isSo.name) (htab : (∀ x ∈ c.exceptionTable.toList, False))  {x11 : Int32} {x12 : Int32} {x15 : Int32} {S : Sg} (h : w_L_isSo_768  Qa x11 x12 x15 S) : V X p l e R s m args below meth c 23 (QM X below args s S0 ad0 rvI Qa) S0 ad0 S 768 [(0, Value.ref (enc 0 0)), (1, Value.ref (enc 13 3)), (2, Value.ref (enc 13 4)), (4, Value.ref (enc 13 6)), (6, Value.ref (enc 13 8)), (7, Value.ref (enc 13 9)), (10, Value.ref (enc 13 12)), (11, Value.int x11), (12, Value.int x12), (15, Value.int x15)] [] := by
  refine V_iconst (pc := 768) C (v := 0) dL_isSo_768 rfl ?_
  refine V_istore (pc := 769) C dL_isSo_769 (by decide) rfl ?_
  refine V_sub [1, 2, 3, 4, 5, 6, 7, 8, 9, 10, 0] rfl ?_
  obtain ⟨n9, h⟩ := h
  exact k_L_isSo_771 hT hl C hr hnm htab  n9 h
def w_L_isSo_760 (k374 : Int32 → Int32 → Int32 → Int32 → Sg → Prop) (Q : Nat → Int32 → Sg → Prop) (x11 : Int32) (x12 : Int32) (x16 : Int32) (y0 : Int32) (S : Sg) : Prop := k374 x11 x12 y0 (x16 + 1) S
theorem k_L_isSo_760 (hT : xT X = tb1) (hl : l.stackTraces = false) (C : Cn X k0 p l R s m meth c cL_isSo RL 23 14 321) (hr : meth.sig.returnType = (some .boolean)) (hnm : meth.name = yL_isSo.name) (htab : (∀ x ∈ c.exceptionTable.toList, False)) {k374 : Int32 → Int32 → Int32 → Int32 → Sg → Prop} (hk374 : ∀ {x11 : Int32} {x12 : Int32} {x15 : Int32} {x16 : Int32} {S : Sg}, k374 x11 x12 x15 x16 S → V X p l e R s m args below meth c 23 (QM X below args s S0 ad0 rvI Qa) S0 ad0 S 374 [(0, Value.ref (enc 0 0)), (1, Value.ref (enc 13 3)), (2, Value.ref (enc 13 4)), (4, Value.ref (enc 13 6)), (5, Value.ref (enc 13 7)), (6, Value.ref (enc 13 8)), (7, Value.ref (enc 13 9)), (9, Value.ref (enc 13 11)), (10, Value.ref (enc 13 12)), (11, Value.int x11), (12, Value.int x12), (15, Value.int x15), (16, Value.int x16)] []) {x11 : Int32} {x12 : Int32} {x16 : Int32} {y0 : Int32} {S : Sg} (h : w_L_isSo_760 k374 Qa x11 x12 x16 y0 S) : V X p l e R s m args below meth c 23 (QM X below args s S0 ad0 rvI Qa) S0 ad0 S 760 [(0, Value.ref (enc 0 0)), (1, Value.ref (enc 13 3)), (2, Value.ref (enc 13 4)), (4, Value.ref (enc 13 6)), (5, Value.ref (enc 13 7)), (6, Value.ref (enc 13 8)), (7, Value.ref (enc 13 9)), (9, Value.ref (enc 13 11)), (10, Value.ref (enc 13 12)), (11, Value.int x11), (12, Value.int x12), (16, Value.int x16)] [Value.int y0] := by
  refine V_istore (pc := 760) C dL_isSo_760 (by decide) rfl ?_
  refine V_iinc (pc := 762) C (a := 12) (v := x16 + 1) dL_isSo_762 rfl rfl (by decide) rfl ?_
  refine V_goto (pc := 765) (tgt := 374) C dL_isSo_765 (by decide) ?_
  refine V_sub [2, 3, 4, 5, 6, 7, 8, 9, 10, 11, 12, 1, 0] rfl ?_
  exact hk374 h
def w_L_isSo_759 (k374 : Int32 → Int32 → Int32 → Int32 → Sg → Prop) (Q : Nat → Int32 → Sg → Prop) (x11 : Int32) (x12 : Int32) (x16 : Int32) (S : Sg) : Prop := w_L_isSo_760 k374 Q x11 x12 x16 0 S
theorem k_L_isSo_759 (hT : xT X = tb1) (hl : l.stackTraces = false) (C : Cn X k0 p l R s m meth c cL_isSo RL 23 14 321) (hr : meth.sig.returnType = (some .boolean)) (hnm : meth.name = yL_isSo.name) (htab : (∀ x ∈ c.exceptionTable.toList, False)) {k374 : Int32 → Int32 → Int32 → Int32 → Sg → Prop} (hk374 : ∀ {x11 : Int32} {x12 : Int32} {x15 : Int32} {x16 : Int32} {S : Sg}, k374 x11 x12 x15 x16 S → V X p l e R s m args below meth c 23 (QM X below args s S0 ad0 rvI Qa) S0 ad0 S 374 [(0, Value.ref (enc 0 0)), (1, Value.ref (enc 13 3)), (2, Value.ref (enc 13 4)), (4, Value.ref (enc 13 6)), (5, Value.ref (enc 13 7)), (6, Value.ref (enc 13 8)), (7, Value.ref (enc 13 9)), (9, Value.ref (enc 13 11)), (10, Value.ref (enc 13 12)), (11, Value.int x11), (12, Value.int x12), (15, Value.int x15), (16, Value.int x16)] []) {x11 : Int32} {x12 : Int32} {x16 : Int32} {S : Sg} (h : w_L_isSo_759 k374 Qa x11 x12 x16 S) : V X p l e R s m args below meth c 23 (QM X below args s S0 ad0 rvI Qa) S0 ad0 S 759 [(0, Value.ref (enc 0 0)), (1, Value.ref (enc 13 3)), (2, Value.ref (enc 13 4)), (4, Value.ref (enc 13 6)), (5, Value.ref (enc 13 7)), (6, Value.ref (enc 13 8)), (7, Value.ref (enc 13 9)), (9, Value.ref (enc 13 11)), (10, Value.ref (enc 13 12)), (11, Value.int x11), (12, Value.int x12), (16, Value.int x16)] [] := by
  refine V_iconst (pc := 759) C (v := 0) dL_isSo_759 rfl ?_
  refine V_sub [0, 1, 2, 3, 4, 5, 6, 7, 8, 9, 10, 11] rfl ?_
  exact k_L_isSo_760 hT hl C hr hnm htab (fun h => hk374 h) h
def w_L_isSo_589 (k374 : Int32 → Int32 → Int32 → Int32 → Sg → Prop) (k555 : Int32 → Int32 → Int32 → Int32 → Int32 → Int32 → Int32 → Int32 → Sg → Prop) (Q : Nat → Int32 → Sg → Prop) (x11 : Int32) (x12 : Int32) (x15 : Int32) (x16 : Int32) (x17 : Int32) (x18 : Int32) (x21 : Int32) (y0 : Int32) (y1 : Int32) (S : Sg) : Prop := (∀ v47, v47 = y1 + y0 → k555 x11 x12 x15 x16 x17 x18 v47 (x21 + 1) S)
theorem k_L_isSo_589 (hT : xT X = tb1) (hl : l.stackTraces = false) (C : Cn X k0 p l R s m meth c cL_isSo RL 23 14 321) (hr : meth.sig.returnType = (some .boolean)) (hnm : meth.name = yL_isSo.name) (htab : (∀ x ∈ c.exceptionTable.toList, False)) {k374 : Int32 → Int32 → Int32 → Int32 → Sg → Prop} (hk374 : ∀ {x11 : Int32} {x12 : Int32} {x15 : Int32} {x16 : Int32} {S : Sg}, k374 x11 x12 x15 x16 S → V X p l e R s m args below meth c 23 (QM X below args s S0 ad0 rvI Qa) S0 ad0 S 374 [(0, Value.ref (enc 0 0)), (1, Value.ref (enc 13 3)), (2, Value.ref (enc 13 4)), (4, Value.ref (enc 13 6)), (5, Value.ref (enc 13 7)), (6, Value.ref (enc 13 8)), (7, Value.ref (enc 13 9)), (9, Value.ref (enc 13 11)), (10, Value.ref (enc 13 12)), (11, Value.int x11), (12, Value.int x12), (15, Value.int x15), (16, Value.int x16)] []) {k555 : Int32 → Int32 → Int32 → Int32 → Int32 → Int32 → Int32 → Int32 → Sg → Prop} (hk555 : ∀ {x11 : Int32} {x12 : Int32} {x15 : Int32} {x16 : Int32} {x17 : Int32} {x18 : Int32} {x19 : Int32} {x21 : Int32} {S : Sg}, k555 x11 x12 x15 x16 x17 x18 x19 x21 S → V X p l e R s m args below meth c 23 (QM X below args s S0 ad0 rvI Qa) S0 ad0 S 555 [(0, Value.ref (enc 0 0)), (1, Value.ref (enc 13 3)), (2, Value.ref (enc 13 4)), (4, Value.ref (enc 13 6)), (5, Value.ref (enc 13 7)), (6, Value.ref (enc 13 8)), (7, Value.ref (enc 13 9)), (9, Value.ref (enc 13 11)), (10, Value.ref (enc 13 12)), (11, Value.int x11), (12, Value.int x12), (15, Value.int x15), (16, Value.int x16), (17, Value.int x17), (18, Value.int x18), (19, Value.int x19), (21, Value.int x21)] []) {x11 : Int32} {x12 : Int32} {x15 : Int32} {x16 : Int32} {x17 : Int32} {x18 : Int32} {x21 : Int32} {y0 : Int32} {y1 : Int32} {S : Sg} (h : w_L_isSo_589 k374 k555 Qa x11 x12 x15 x16 x17 x18 x21 y0 y1 S) : V X p l e R s m args below meth c 23 (QM X below args s S0 ad0 rvI Qa) S0 ad0 S 589 [(0, Value.ref (enc 0 0)), (1, Value.ref (enc 13 3)), (2, Value.ref (enc 13 4)), (4, Value.ref (enc 13 6)), (5, Value.ref (enc 13 7)), (6, Value.ref (enc 13 8)), (7, Value.ref (enc 13 9)), (9, Value.ref (enc 13 11)), (10, Value.ref (enc 13 12)), (11, Value.int x11), (12, Value.int x12), (15, Value.int x15), (16, Value.int x16), (17, Value.int x17), (18, Value.int x18), (21, Value.int x21)] [Value.int y0, Value.int y1] := by
  refine V_iadd (pc := 589) C dL_isSo_589 ?_
  refine V_nI fun v47 e9 => ?_
  replace h := h v47 e9; clear e9
  refine V_istore (pc := 590) C dL_isSo_590 (by decide) rfl ?_
  refine V_iinc (pc := 592) C (a := 16) (v := x21 + 1) dL_isSo_592 rfl rfl (by decide) rfl ?_
  refine V_goto (pc := 595) (tgt := 555) C dL_isSo_595 (by decide) ?_
  refine V_sub [2, 3, 4, 5, 6, 7, 8, 9, 10, 11, 12, 13, 14, 15, 16, 1, 0] rfl ?_
  exact hk555 h
def w_L_isSo_555 (k374 : Int32 → Int32 → Int32 → Int32 → Sg → Prop) (Q : Nat → Int32 → Sg → Prop) : Nat → Int32 → Int32 → Int32 → Int32 → Int32 → Int32 → Int32 → Int32 → Sg → Prop
  | 0, _, _, _, _, _, _, _, _, _ => False
  | n + 1, x11, x12, x15, x16, x17, x18, x19, x21, S => (vp_in 7 8 ∧ (((S.1 112 (nt 7)) ≤ x21 → ((x15 = 0 → w_L_isSo_759 k374 Q x11 x12 x16 S) ∧ (¬ x15 = 0 → (w_X7_ofShow x16 0 S (fun k50 v49 S48 => (k50 = 0 → (vp_in x16 11 ∧ ((v49 = ((S48.1 106 (nt x16)) - (S48.1 106 (nt x16)) / 4 * 4) → (w_X7_ofShow x16 1 S48 (fun k53 v52 S51 => (k53 = 0 → (vp_in x16 11 ∧ ((v52 = (((S51.1 106 (nt x16)) / 4) - ((S51.1 106 (nt x16)) / 4) / 4 * 4) → (w_X7_ofShow x16 2 S51 (fun k56 v55 S54 => (k56 = 0 → (vp_in (5 + x16) 11 ∧ ((v55 = (S54.1 106 (nt (5 + x16))) → (w_X7_ofShow x16 3 S54 (fun k59 v58 S57 => (k59 = 0 → (w_L_state x16 S57 (fun k62 v61 S60 => (k62 = 0 → ((v58 = v61 → (w_X7_ofShow x16 4 S60 (fun k65 v64 S63 => (k65 = 0 → ((v64 = x17 → (w_X7_ofShow x16 5 S63 (fun k68 v67 S66 => (k68 = 0 → ((v67 = x18 → (w_X7_ofShow x16 6 S66 (fun k71 v70 S69 => (k71 = 0 → (w_L_people x16 S69 (fun k74 v73 S72 => (k74 = 0 → ((v70 = v73 → (w_X7_ofShow x16 7 S72 (fun k77 v76 S75 => (k77 = 0 → ((v76 = x19 → (w_X7_price x16 (x11 - x11 / 121 * 121) S75 (fun k80 v79 S78 => (k80 = 0 → (w_L_price x16 (x11 - x11 / 121 * 121) S78 (fun k83 v82 S81 => (k83 = 0 → ((v79 = v82 → w_L_isSo_760 k374 Q x11 x12 x16 1 S81) ∧ (¬ v79 = v82 → w_L_isSo_759 k374 Q x11 x12 x16 S81))) ∧ (¬ k83 = 0 → Q k83 0 S81)))) ∧ (¬ k80 = 0 → Q k80 0 S78)))) ∧ (¬ v76 = x19 → w_L_isSo_759 k374 Q x11 x12 x16 S75))) ∧ (¬ k77 = 0 → Q k77 0 S75)))) ∧ (¬ v70 = v73 → w_L_isSo_759 k374 Q x11 x12 x16 S72))) ∧ (¬ k74 = 0 → Q k74 0 S72)))) ∧ (¬ k71 = 0 → Q k71 0 S69)))) ∧ (¬ v67 = x18 → w_L_isSo_759 k374 Q x11 x12 x16 S66))) ∧ (¬ k68 = 0 → Q k68 0 S66)))) ∧ (¬ v64 = x17 → w_L_isSo_759 k374 Q x11 x12 x16 S63))) ∧ (¬ k65 = 0 → Q k65 0 S63)))) ∧ (¬ v58 = v61 → w_L_isSo_759 k374 Q x11 x12 x16 S60))) ∧ (¬ k62 = 0 → Q k62 0 S60)))) ∧ (¬ k59 = 0 → Q k59 0 S57)))) ∧ (¬ v55 = (S54.1 106 (nt (5 + x16))) → w_L_isSo_759 k374 Q x11 x12 x16 S54)))) ∧ (¬ k56 = 0 → Q k56 0 S54)))) ∧ (¬ v52 = (((S51.1 106 (nt x16)) / 4) - ((S51.1 106 (nt x16)) / 4) / 4 * 4) → w_L_isSo_759 k374 Q x11 x12 x16 S51)))) ∧ (¬ k53 = 0 → Q k53 0 S51)))) ∧ (¬ v49 = ((S48.1 106 (nt x16)) - (S48.1 106 (nt x16)) / 4 * 4) → w_L_isSo_759 k374 Q x11 x12 x16 S48)))) ∧ (¬ k50 = 0 → Q k50 0 S48)))))) ∧ (¬ (S.1 112 (nt 7)) ≤ x21 → (vp_in x21 64 ∧ ((((S.1 108 (nt x21)) - (S.1 108 (nt x21)) / 8 * 8) = x16 → (vp_in x21 64 ∧ w_L_isSo_589 k374 (fun x11 x12 x15 x16 x17 x18 x19 x21 S => w_L_isSo_555 k374 Q n x11 x12 x15 x16 x17 x18 x19 x21 S) Q x11 x12 x15 x16 x17 x18 x21 (S.1 109 (nt x21)) x19 S)) ∧ (¬ ((S.1 108 (nt x21)) - (S.1 108 (nt x21)) / 8 * 8) = x16 → w_L_isSo_589 k374 (fun x11 x12 x15 x16 x17 x18 x19 x21 S => w_L_isSo_555 k374 Q n x11 x12 x15 x16 x17 x18 x19 x21 S) Q x11 x12 x15 x16 x17 x18 x21 0 x19 S))))))
theorem k_L_isSo_555 (hT : xT X = tb1) (hl : l.stackTraces = false) (C : Cn X k0 p l R s m meth c cL_isSo RL 23 14 321) (hr : meth.sig.returnType = (some .boolean)) (hnm : meth.name = yL_isSo.name) (htab : (∀ x ∈ c.exceptionTable.toList, False)) {k374 : Int32 → Int32 → Int32 → Int32 → Sg → Prop} (hk374 : ∀ {x11 : Int32} {x12 : Int32} {x15 : Int32} {x16 : Int32} {S : Sg}, k374 x11 x12 x15 x16 S → V X p l e R s m args below meth c 23 (QM X below args s S0 ad0 rvI Qa) S0 ad0 S 374 [(0, Value.ref (enc 0 0)), (1, Value.ref (enc 13 3)), (2, Value.ref (enc 13 4)), (4, Value.ref (enc 13 6)), (5, Value.ref (enc 13 7)), (6, Value.ref (enc 13 8)), (7, Value.ref (enc 13 9)), (9, Value.ref (enc 13 11)), (10, Value.ref (enc 13 12)), (11, Value.int x11), (12, Value.int x12), (15, Value.int x15), (16, Value.int x16)] []) : ∀ n {x11 : Int32} {x12 : Int32} {x15 : Int32} {x16 : Int32} {x17 : Int32} {x18 : Int32} {x19 : Int32} {x21 : Int32} {S : Sg}, w_L_isSo_555 k374 Qa n x11 x12 x15 x16 x17 x18 x19 x21 S → V X p l e R s m args below meth c 23 (QM X below args s S0 ad0 rvI Qa) S0 ad0 S 555 [(0, Value.ref (enc 0 0)), (1, Value.ref (enc 13 3)), (2, Value.ref (enc 13 4)), (4, Value.ref (enc 13 6)), (5, Value.ref (enc 13 7)), (6, Value.ref (enc 13 8)), (7, Value.ref (enc 13 9)), (9, Value.ref (enc 13 11)), (10, Value.ref (enc 13 12)), (11, Value.int x11), (12, Value.int x12), (15, Value.int x15), (16, Value.int x16), (17, Value.int x17), (18, Value.int x18), (19, Value.int x19), (21, Value.int x21)] [] := by
  intro n
  induction n with
  | zero => intro x11 x12 x15 x16 x17 x18 x19 x21 S h; exact h.elim
  | succ n ih =>
    intro x11 x12 x15 x16 x17 x18 x19 x21 S h
    refine V_iload (pc := 555) C dL_isSo_555 16 rfl ?_
    refine V_aload (pc := 557) C dL_isSo_557 8 rfl ?_
    refine V_bipush (pc := 559) C (v := 7) dL_isSo_559 rfl ?_
    refine V_mld (pc := 561) C hT tb1_arr (n := 8) (c9 := 112) rfl rfl rfl h dL_isSo_561 (fun h => ?_)
    refine V_icmp_ge (pc := 562) (tgt := 598) C dL_isSo_562 (by decide) h (fun h => ?_) (fun h => ?_)
    · refine V_iload (pc := 598) C dL_isSo_598 11 rfl ?_
      refine V_if_eq (pc := 600) (tgt := 759) C dL_isSo_600 (by decide) h (fun h => ?_) (fun h => ?_)
      · refine V_sub [0, 1, 2, 3, 4, 5, 6, 7, 8, 9, 10, 12] rfl ?_
        exact k_L_isSo_759 hT hl C hr hnm htab (fun h => hk374 h) h
      · refine V_aload_n (pc := 603) C dL_isSo_603 rfl 0 rfl ?_
        refine V_iload (pc := 604) C dL_isSo_604 12 rfl ?_
        refine V_iconst (pc := 606) C (v := 0) dL_isSo_606 rfl ?_
        refine V_callV (pc := 607) C (ct_X7_ofShow hT hl h) g811 g812 g813 g814 g33 ⟨by decide, by decide, pl_X7_ofShow⟩ (enc_ne63 (by decide)) (ct_obj hT rfl (by decide)) rfl ⟨by decide, by decide⟩ (rest := []) rfl (le8 rfl) dL_isSo_607 (fun v49 S48 h => ?_) (fun k9 S9 hk h => VX_out C htab hk (h.2 (by omega)))
        replace h := h.1 rfl
        refine V_st (st' := [Value.int v49]) rfl ?_
        refine V_aload (pc := 610) C dL_isSo_610 3 rfl ?_
        refine V_iload (pc := 612) C dL_isSo_612 12 rfl ?_
        refine V_mld (pc := 614) C hT tb1_arr (n := 11) (c9 := 106) rfl rfl rfl h dL_isSo_614 (fun h => ?_)
        refine V_iconst (pc := 615) C (v := 4) dL_isSo_615 rfl ?_
        refine V_irem (pc := 616) C dL_isSo_616 (by decide) ?_
        refine V_icmp_ne (pc := 617) (tgt := 759) C dL_isSo_617 (by decide) h (fun h => ?_) (fun h => ?_)
        · refine V_sub [0, 1, 2, 3, 4, 5, 6, 7, 8, 9, 10, 12] rfl ?_
          exact k_L_isSo_759 hT hl C hr hnm htab (fun h => hk374 h) h
        · refine V_aload_n (pc := 620) C dL_isSo_620 rfl 0 rfl ?_
          refine V_iload (pc := 621) C dL_isSo_621 12 rfl ?_
          refine V_iconst (pc := 623) C (v := 1) dL_isSo_623 rfl ?_
          refine V_callV (pc := 624) C (ct_X7_ofShow hT hl h) g811 g812 g813 g814 g33 ⟨by decide, by decide, pl_X7_ofShow⟩ (enc_ne63 (by decide)) (ct_obj hT rfl (by decide)) rfl ⟨by decide, by decide⟩ (rest := []) rfl (le8 rfl) dL_isSo_624 (fun v52 S51 h => ?_) (fun k9 S9 hk h => VX_out C htab hk (h.2 (by omega)))
          replace h := h.1 rfl
          refine V_st (st' := [Value.int v52]) rfl ?_
          refine V_aload (pc := 627) C dL_isSo_627 3 rfl ?_
          refine V_iload (pc := 629) C dL_isSo_629 12 rfl ?_
          refine V_mld (pc := 631) C hT tb1_arr (n := 11) (c9 := 106) rfl rfl rfl h dL_isSo_631 (fun h => ?_)
          refine V_iconst (pc := 632) C (v := 4) dL_isSo_632 rfl ?_
          refine V_idiv (pc := 633) C dL_isSo_633 (by decide) ?_
          refine V_iconst (pc := 634) C (v := 4) dL_isSo_634 rfl ?_
          refine V_irem (pc := 635) C dL_isSo_635 (by decide) ?_
          refine V_icmp_ne (pc := 636) (tgt := 759) C dL_isSo_636 (by decide) h (fun h => ?_) (fun h => ?_)
          · refine V_sub [0, 1, 2, 3, 4, 5, 6, 7, 8, 9, 10, 12] rfl ?_
            exact k_L_isSo_759 hT hl C hr hnm htab (fun h => hk374 h) h
          · refine V_aload_n (pc := 639) C dL_isSo_639 rfl 0 rfl ?_
            refine V_iload (pc := 640) C dL_isSo_640 12 rfl ?_
            refine V_iconst (pc := 642) C (v := 2) dL_isSo_642 rfl ?_
            refine V_callV (pc := 643) C (ct_X7_ofShow hT hl h) g811 g812 g813 g814 g33 ⟨by decide, by decide, pl_X7_ofShow⟩ (enc_ne63 (by decide)) (ct_obj hT rfl (by decide)) rfl ⟨by decide, by decide⟩ (rest := []) rfl (le8 rfl) dL_isSo_643 (fun v55 S54 h => ?_) (fun k9 S9 hk h => VX_out C htab hk (h.2 (by omega)))
            replace h := h.1 rfl
            refine V_st (st' := [Value.int v55]) rfl ?_
            refine V_aload (pc := 646) C dL_isSo_646 3 rfl ?_
            refine V_iconst (pc := 648) C (v := 5) dL_isSo_648 rfl ?_
            refine V_iload (pc := 649) C dL_isSo_649 12 rfl ?_
            refine V_iadd (pc := 651) C dL_isSo_651 ?_
            refine V_mld (pc := 652) C hT tb1_arr (n := 11) (c9 := 106) rfl rfl rfl h dL_isSo_652 (fun h => ?_)
            refine V_icmp_ne (pc := 653) (tgt := 759) C dL_isSo_653 (by decide) h (fun h => ?_) (fun h => ?_)
            · refine V_sub [0, 1, 2, 3, 4, 5, 6, 7, 8, 9, 10, 12] rfl ?_
              exact k_L_isSo_759 hT hl C hr hnm htab (fun h => hk374 h) h
            · refine V_aload_n (pc := 656) C dL_isSo_656 rfl 0 rfl ?_
              refine V_iload (pc := 657) C dL_isSo_657 12 rfl ?_
              refine V_iconst (pc := 659) C (v := 3) dL_isSo_659 rfl ?_
              refine V_callV (pc := 660) C (ct_X7_ofShow hT hl h) g811 g812 g813 g814 g33 ⟨by decide, by decide, pl_X7_ofShow⟩ (enc_ne63 (by decide)) (ct_obj hT rfl (by decide)) rfl ⟨by decide, by decide⟩ (rest := []) rfl (le8 rfl) dL_isSo_660 (fun v58 S57 h => ?_) (fun k9 S9 hk h => VX_out C htab hk (h.2 (by omega)))
              replace h := h.1 rfl
              refine V_st (st' := [Value.int v58]) rfl ?_
              refine V_aload (pc := 663) C dL_isSo_663 3 rfl ?_
              refine V_iload (pc := 665) C dL_isSo_665 12 rfl ?_
              refine V_callS (pc := 667) C (ct_L_state hT hl h) g794 g795 g796 g32 ⟨by decide, by decide, pl_L_state⟩ ⟨by decide, by decide⟩ (rest := [Value.int v58]) rfl (le8 rfl) dL_isSo_667 (fun v61 S60 h => ?_) (fun k9 S9 hk h => VX_out C htab hk (h.2 (by omega)))
              replace h := h.1 rfl
              refine V_st (st' := [Value.int v61, Value.int v58]) rfl ?_
              refine V_icmp_ne (pc := 670) (tgt := 759) C dL_isSo_670 (by decide) h (fun h => ?_) (fun h => ?_)
              · refine V_sub [0, 1, 2, 3, 4, 5, 6, 7, 8, 9, 10, 12] rfl ?_
                exact k_L_isSo_759 hT hl C hr hnm htab (fun h => hk374 h) h
              · refine V_aload_n (pc := 673) C dL_isSo_673 rfl 0 rfl ?_
                refine V_iload (pc := 674) C dL_isSo_674 12 rfl ?_
                refine V_iconst (pc := 676) C (v := 4) dL_isSo_676 rfl ?_
                refine V_callV (pc := 677) C (ct_X7_ofShow hT hl h) g811 g812 g813 g814 g33 ⟨by decide, by decide, pl_X7_ofShow⟩ (enc_ne63 (by decide)) (ct_obj hT rfl (by decide)) rfl ⟨by decide, by decide⟩ (rest := []) rfl (le8 rfl) dL_isSo_677 (fun v64 S63 h => ?_) (fun k9 S9 hk h => VX_out C htab hk (h.2 (by omega)))
                replace h := h.1 rfl
                refine V_st (st' := [Value.int v64]) rfl ?_
                refine V_iload (pc := 680) C dL_isSo_680 13 rfl ?_
                refine V_icmp_ne (pc := 682) (tgt := 759) C dL_isSo_682 (by decide) h (fun h => ?_) (fun h => ?_)
                · refine V_sub [0, 1, 2, 3, 4, 5, 6, 7, 8, 9, 10, 12] rfl ?_
                  exact k_L_isSo_759 hT hl C hr hnm htab (fun h => hk374 h) h
                · refine V_aload_n (pc := 685) C dL_isSo_685 rfl 0 rfl ?_
                  refine V_iload (pc := 686) C dL_isSo_686 12 rfl ?_
                  refine V_iconst (pc := 688) C (v := 5) dL_isSo_688 rfl ?_
                  refine V_callV (pc := 689) C (ct_X7_ofShow hT hl h) g811 g812 g813 g814 g33 ⟨by decide, by decide, pl_X7_ofShow⟩ (enc_ne63 (by decide)) (ct_obj hT rfl (by decide)) rfl ⟨by decide, by decide⟩ (rest := []) rfl (le8 rfl) dL_isSo_689 (fun v67 S66 h => ?_) (fun k9 S9 hk h => VX_out C htab hk (h.2 (by omega)))
                  replace h := h.1 rfl
                  refine V_st (st' := [Value.int v67]) rfl ?_
                  refine V_iload (pc := 692) C dL_isSo_692 14 rfl ?_
                  refine V_icmp_ne (pc := 694) (tgt := 759) C dL_isSo_694 (by decide) h (fun h => ?_) (fun h => ?_)
                  · refine V_sub [0, 1, 2, 3, 4, 5, 6, 7, 8, 9, 10, 12] rfl ?_
                    exact k_L_isSo_759 hT hl C hr hnm htab (fun h => hk374 h) h
                  · refine V_aload_n (pc := 697) C dL_isSo_697 rfl 0 rfl ?_
                    refine V_iload (pc := 698) C dL_isSo_698 12 rfl ?_
                    refine V_bipush (pc := 700) C (v := 6) dL_isSo_700 rfl ?_
                    refine V_callV (pc := 702) C (ct_X7_ofShow hT hl h) g811 g812 g813 g814 g33 ⟨by decide, by decide, pl_X7_ofShow⟩ (enc_ne63 (by decide)) (ct_obj hT rfl (by decide)) rfl ⟨by decide, by decide⟩ (rest := []) rfl (le8 rfl) dL_isSo_702 (fun v70 S69 h => ?_) (fun k9 S9 hk h => VX_out C htab hk (h.2 (by omega)))
                    replace h := h.1 rfl
                    refine V_st (st' := [Value.int v70]) rfl ?_
                    refine V_aload (pc := 705) C dL_isSo_705 7 rfl ?_
                    refine V_iload (pc := 707) C dL_isSo_707 12 rfl ?_
                    refine V_callS (pc := 709) C (ct_L_people hT hl h) g825 g826 g827 g32 ⟨by decide, by decide, pl_L_people⟩ ⟨by decide, by decide⟩ (rest := [Value.int v70]) rfl (le8 rfl) dL_isSo_709 (fun v73 S72 h => ?_) (fun k9 S9 hk h => VX_out C htab hk (h.2 (by omega)))
                    replace h := h.1 rfl
                    refine V_st (st' := [Value.int v73, Value.int v70]) rfl ?_
                    refine V_icmp_ne (pc := 712) (tgt := 759) C dL_isSo_712 (by decide) h (fun h => ?_) (fun h => ?_)
                    · refine V_sub [0, 1, 2, 3, 4, 5, 6, 7, 8, 9, 10, 12] rfl ?_
                      exact k_L_isSo_759 hT hl C hr hnm htab (fun h => hk374 h) h
                    · refine V_aload_n (pc := 715) C dL_isSo_715 rfl 0 rfl ?_
                      refine V_iload (pc := 716) C dL_isSo_716 12 rfl ?_
                      refine V_bipush (pc := 718) C (v := 7) dL_isSo_718 rfl ?_
                      refine V_callV (pc := 720) C (ct_X7_ofShow hT hl h) g811 g812 g813 g814 g33 ⟨by decide, by decide, pl_X7_ofShow⟩ (enc_ne63 (by decide)) (ct_obj hT rfl (by decide)) rfl ⟨by decide, by decide⟩ (rest := []) rfl (le8 rfl) dL_isSo_720 (fun v76 S75 h => ?_) (fun k9 S9 hk h => VX_out C htab hk (h.2 (by omega)))
                      replace h := h.1 rfl
                      refine V_st (st' := [Value.int v76]) rfl ?_
                      refine V_iload (pc := 723) C dL_isSo_723 15 rfl ?_
                      refine V_icmp_ne (pc := 725) (tgt := 759) C dL_isSo_725 (by decide) h (fun h => ?_) (fun h => ?_)
                      · refine V_sub [0, 1, 2, 3, 4, 5, 6, 7, 8, 9, 10, 12] rfl ?_
                        exact k_L_isSo_759 hT hl C hr hnm htab (fun h => hk374 h) h
                      · refine V_aload_n (pc := 728) C dL_isSo_728 rfl 0 rfl ?_
                        refine V_iload (pc := 729) C dL_isSo_729 12 rfl ?_
                        refine V_iload (pc := 731) C dL_isSo_731 9 rfl ?_
                        refine V_bipush (pc := 733) C (v := 121) dL_isSo_733 rfl ?_
                        refine V_irem (pc := 735) C dL_isSo_735 (by decide) ?_
                        refine V_callV (pc := 736) C (ct_X7_price hT hl h) g765 g766 g767 g768 g33 ⟨by decide, by decide, pl_X7_price⟩ (enc_ne63 (by decide)) (ct_obj hT rfl (by decide)) rfl ⟨by decide, by decide⟩ (rest := []) rfl (le8 rfl) dL_isSo_736 (fun v79 S78 h => ?_) (fun k9 S9 hk h => VX_out C htab hk (h.2 (by omega)))
                        replace h := h.1 rfl
                        refine V_st (st' := [Value.int v79]) rfl ?_
                        refine V_aload_n (pc := 739) C dL_isSo_739 rfl 2 rfl ?_
                        refine V_aload (pc := 740) C dL_isSo_740 3 rfl ?_
                        refine V_iload (pc := 742) C dL_isSo_742 12 rfl ?_
                        refine V_iload (pc := 744) C dL_isSo_744 9 rfl ?_
                        refine V_bipush (pc := 746) C (v := 121) dL_isSo_746 rfl ?_
                        refine V_irem (pc := 748) C dL_isSo_748 (by decide) ?_
                        refine V_callS (pc := 749) C (ct_L_price hT hl h) g828 g829 g830 g32 ⟨by decide, by decide, pl_L_price⟩ ⟨by decide, by decide⟩ (rest := [Value.int v79]) rfl (le8 rfl) dL_isSo_749 (fun v82 S81 h => ?_) (fun k9 S9 hk h => VX_out C htab hk (h.2 (by omega)))
                        replace h := h.1 rfl
                        refine V_st (st' := [Value.int v82, Value.int v79]) rfl ?_
                        refine V_icmp_ne (pc := 752) (tgt := 759) C dL_isSo_752 (by decide) h (fun h => ?_) (fun h => ?_)
                        · refine V_sub [0, 1, 2, 3, 4, 5, 6, 7, 8, 9, 10, 12] rfl ?_
                          exact k_L_isSo_759 hT hl C hr hnm htab (fun h => hk374 h) h
                        · refine V_iconst (pc := 755) C (v := 1) dL_isSo_755 rfl ?_
                          refine V_goto (pc := 756) (tgt := 760) C dL_isSo_756 (by decide) ?_
                          refine V_sub [0, 1, 2, 3, 4, 5, 6, 7, 8, 9, 10, 12] rfl ?_
                          exact k_L_isSo_760 hT hl C hr hnm htab (fun h => hk374 h) h
    · refine V_iload (pc := 565) C dL_isSo_565 15 rfl ?_
      refine V_aload (pc := 567) C dL_isSo_567 5 rfl ?_
      refine V_iload (pc := 569) C dL_isSo_569 16 rfl ?_
      refine V_mld (pc := 571) C hT tb1_arr (n := 64) (c9 := 108) rfl rfl rfl h dL_isSo_571 (fun h => ?_)
      refine V_bipush (pc := 572) C (v := 8) dL_isSo_572 rfl ?_
      refine V_irem (pc := 574) C dL_isSo_574 (by decide) ?_
      refine V_iload (pc := 575) C dL_isSo_575 12 rfl ?_
      refine V_icmp_ne (pc := 577) (tgt := 588) C dL_isSo_577 (by decide) h (fun h => ?_) (fun h => ?_)
      · refine V_iconst (pc := 588) C (v := 0) dL_isSo_588 rfl ?_
        refine V_sub [0, 1, 2, 3, 4, 5, 6, 7, 8, 9, 10, 11, 12, 13, 14, 16] rfl ?_
        exact k_L_isSo_589 hT hl C hr hnm htab (fun h => hk374 h) (fun h => ih h) h
      · refine V_aload (pc := 580) C dL_isSo_580 6 rfl ?_
        refine V_iload (pc := 582) C dL_isSo_582 16 rfl ?_
        refine V_mld (pc := 584) C hT tb1_arr (n := 64) (c9 := 109) rfl rfl rfl h dL_isSo_584 (fun h => ?_)
        refine V_goto (pc := 585) (tgt := 589) C dL_isSo_585 (by decide) ?_
        refine V_sub [0, 1, 2, 3, 4, 5, 6, 7, 8, 9, 10, 11, 12, 13, 14, 16] rfl ?_
        exact k_L_isSo_589 hT hl C hr hnm htab (fun h => hk374 h) (fun h => ih h) h
def w_L_isSo_544 (k374 : Int32 → Int32 → Int32 → Int32 → Sg → Prop) (k416 : Int32 → Int32 → Int32 → Int32 → Int32 → Int32 → Int32 → Int32 → Int32 → Sg → Prop) (Q : Nat → Int32 → Sg → Prop) (x11 : Int32) (x12 : Int32) (x16 : Int32) (x17 : Int32) (x18 : Int32) (x19 : Int32) (x20 : Int32) (x21 : Int32) (y0 : Int32) (S : Sg) : Prop := k416 x11 x12 y0 x16 x17 x18 x19 x20 (x21 + 1) S
theorem k_L_isSo_544 (hT : xT X = tb1) (hl : l.stackTraces = false) (C : Cn X k0 p l R s m meth c cL_isSo RL 23 14 321) (hr : meth.sig.returnType = (some .boolean)) (hnm : meth.name = yL_isSo.name) (htab : (∀ x ∈ c.exceptionTable.toList, False)) {k374 : Int32 → Int32 → Int32 → Int32 → Sg → Prop} (hk374 : ∀ {x11 : Int32} {x12 : Int32} {x15 : Int32} {x16 : Int32} {S : Sg}, k374 x11 x12 x15 x16 S → V X p l e R s m args below meth c 23 (QM X below args s S0 ad0 rvI Qa) S0 ad0 S 374 [(0, Value.ref (enc 0 0)), (1, Value.ref (enc 13 3)), (2, Value.ref (enc 13 4)), (4, Value.ref (enc 13 6)), (5, Value.ref (enc 13 7)), (6, Value.ref (enc 13 8)), (7, Value.ref (enc 13 9)), (9, Value.ref (enc 13 11)), (10, Value.ref (enc 13 12)), (11, Value.int x11), (12, Value.int x12), (15, Value.int x15), (16, Value.int x16)] []) {k416 : Int32 → Int32 → Int32 → Int32 → Int32 → Int32 → Int32 → Int32 → Int32 → Sg → Prop} (hk416 : ∀ {x11 : Int32} {x12 : Int32} {x15 : Int32} {x16 : Int32} {x17 : Int32} {x18 : Int32} {x19 : Int32} {x20 : Int32} {x21 : Int32} {S : Sg}, k416 x11 x12 x15 x16 x17 x18 x19 x20 x21 S → V X p l e R s m args below meth c 23 (QM X below args s S0 ad0 rvI Qa) S0 ad0 S 416 [(0, Value.ref (enc 0 0)), (1, Value.ref (enc 13 3)), (2, Value.ref (enc 13 4)), (4, Value.ref (enc 13 6)), (5, Value.ref (enc 13 7)), (6, Value.ref (enc 13 8)), (7, Value.ref (enc 13 9)), (9, Value.ref (enc 13 11)), (10, Value.ref (enc 13 12)), (11, Value.int x11), (12, Value.int x12), (15, Value.int x15), (16, Value.int x16), (17, Value.int x17), (18, Value.int x18), (19, Value.int x19), (20, Value.int x20), (21, Value.int x21)] []) {x11 : Int32} {x12 : Int32} {x16 : Int32} {x17 : Int32} {x18 : Int32} {x19 : Int32} {x20 : Int32} {x21 : Int32} {y0 : Int32} {S : Sg} (h : w_L_isSo_544 k374 k416 Qa x11 x12 x16 x17 x18 x19 x20 x21 y0 S) : V X p l e R s m args below meth c 23 (QM X below args s S0 ad0 rvI Qa) S0 ad0 S 544 [(0, Value.ref (enc 0 0)), (1, Value.ref (enc 13 3)), (2, Value.ref (enc 13 4)), (4, Value.ref (enc 13 6)), (5, Value.ref (enc 13 7)), (6, Value.ref (enc 13 8)), (7, Value.ref (enc 13 9)), (9, Value.ref (enc 13 11)), (10, Value.ref (enc 13 12)), (11, Value.int x11), (12, Value.int x12), (16, Value.int x16), (17, Value.int x17), (18, Value.int x18), (19, Value.int x19), (20, Value.int x20), (21, Value.int x21)] [Value.int y0] := by
  refine V_istore (pc := 544) C dL_isSo_544 (by decide) rfl ?_
  refine V_iinc (pc := 546) C (a := 17) (v := x21 + 1) dL_isSo_546 rfl rfl (by decide) rfl ?_
  refine V_goto (pc := 549) (tgt := 416) C dL_isSo_549 (by decide) ?_
  refine V_sub [2, 3, 4, 5, 6, 7, 8, 9, 10, 11, 12, 1, 13, 14, 15, 16, 17, 0] rfl ?_
  exact hk416 h
def w_L_isSo_543 (k374 : Int32 → Int32 → Int32 → Int32 → Sg → Prop) (k416 : Int32 → Int32 → Int32 → Int32 → Int32 → Int32 → Int32 → Int32 → Int32 → Sg → Prop) (Q : Nat → Int32 → Sg → Prop) (x11 : Int32) (x12 : Int32) (x16 : Int32) (x17 : Int32) (x18 : Int32) (x19 : Int32) (x20 : Int32) (x21 : Int32) (S : Sg) : Prop := w_L_isSo_544 k374 k416 Q x11 x12 x16 x17 x18 x19 x20 x21 0 S
theorem k_L_isSo_543 (hT : xT X = tb1) (hl : l.stackTraces = false) (C : Cn X k0 p l R s m meth c cL_isSo RL 23 14 321) (hr : meth.sig.returnType = (some .boolean)) (hnm : meth.name = yL_isSo.name) (htab : (∀ x ∈ c.exceptionTable.toList, False)) {k374 : Int32 → Int32 → Int32 → Int32 → Sg → Prop} (hk374 : ∀ {x11 : Int32} {x12 : Int32} {x15 : Int32} {x16 : Int32} {S : Sg}, k374 x11 x12 x15 x16 S → V X p l e R s m args below meth c 23 (QM X below args s S0 ad0 rvI Qa) S0 ad0 S 374 [(0, Value.ref (enc 0 0)), (1, Value.ref (enc 13 3)), (2, Value.ref (enc 13 4)), (4, Value.ref (enc 13 6)), (5, Value.ref (enc 13 7)), (6, Value.ref (enc 13 8)), (7, Value.ref (enc 13 9)), (9, Value.ref (enc 13 11)), (10, Value.ref (enc 13 12)), (11, Value.int x11), (12, Value.int x12), (15, Value.int x15), (16, Value.int x16)] []) {k416 : Int32 → Int32 → Int32 → Int32 → Int32 → Int32 → Int32 → Int32 → Int32 → Sg → Prop} (hk416 : ∀ {x11 : Int32} {x12 : Int32} {x15 : Int32} {x16 : Int32} {x17 : Int32} {x18 : Int32} {x19 : Int32} {x20 : Int32} {x21 : Int32} {S : Sg}, k416 x11 x12 x15 x16 x17 x18 x19 x20 x21 S → V X p l e R s m args below meth c 23 (QM X below args s S0 ad0 rvI Qa) S0 ad0 S 416 [(0, Value.ref (enc 0 0)), (1, Value.ref (enc 13 3)), (2, Value.ref (enc 13 4)), (4, Value.ref (enc 13 6)), (5, Value.ref (enc 13 7)), (6, Value.ref (enc 13 8)), (7, Value.ref (enc 13 9)), (9, Value.ref (enc 13 11)), (10, Value.ref (enc 13 12)), (11, Value.int x11), (12, Value.int x12), (15, Value.int x15), (16, Value.int x16), (17, Value.int x17), (18, Value.int x18), (19, Value.int x19), (20, Value.int x20), (21, Value.int x21)] []) {x11 : Int32} {x12 : Int32} {x16 : Int32} {x17 : Int32} {x18 : Int32} {x19 : Int32} {x20 : Int32} {x21 : Int32} {S : Sg} (h : w_L_isSo_543 k374 k416 Qa x11 x12 x16 x17 x18 x19 x20 x21 S) : V X p l e R s m args below meth c 23 (QM X below args s S0 ad0 rvI Qa) S0 ad0 S 543 [(0, Value.ref (enc 0 0)), (1, Value.ref (enc 13 3)), (2, Value.ref (enc 13 4)), (4, Value.ref (enc 13 6)), (5, Value.ref (enc 13 7)), (6, Value.ref (enc 13 8)), (7, Value.ref (enc 13 9)), (9, Value.ref (enc 13 11)), (10, Value.ref (enc 13 12)), (11, Value.int x11), (12, Value.int x12), (16, Value.int x16), (17, Value.int x17), (18, Value.int x18), (19, Value.int x19), (20, Value.int x20), (21, Value.int x21)] [] := by
  refine V_iconst (pc := 543) C (v := 0) dL_isSo_543 rfl ?_
  refine V_sub [0, 1, 2, 3, 4, 5, 6, 7, 8, 9, 10, 11, 12, 13, 14, 15, 16] rfl ?_
  exact k_L_isSo_544 hT hl C hr hnm htab (fun h => hk374 h) (fun h => hk416 h) h
def w_L_isSo_539 (k374 : Int32 → Int32 → Int32 → Int32 → Sg → Prop) (k416 : Int32 → Int32 → Int32 → Int32 → Int32 → Int32 → Int32 → Int32 → Int32 → Sg → Prop) (Q : Nat → Int32 → Sg → Prop) (x11 : Int32) (x12 : Int32) (x16 : Int32) (x17 : Int32) (x18 : Int32) (x19 : Int32) (x20 : Int32) (x21 : Int32) (S : Sg) : Prop := w_L_isSo_544 k374 k416 Q x11 x12 x16 x17 x18 x19 x20 x21 1 S
theorem k_L_isSo_539 (hT : xT X = tb1) (hl : l.stackTraces = false) (C : Cn X k0 p l R s m meth c cL_isSo RL 23 14 321) (hr : meth.sig.returnType = (some .boolean)) (hnm : meth.name = yL_isSo.name) (htab : (∀ x ∈ c.exceptionTable.toList, False)) {k374 : Int32 → Int32 → Int32 → Int32 → Sg → Prop} (hk374 : ∀ {x11 : Int32} {x12 : Int32} {x15 : Int32} {x16 : Int32} {S : Sg}, k374 x11 x12 x15 x16 S → V X p l e R s m args below meth c 23 (QM X below args s S0 ad0 rvI Qa) S0 ad0 S 374 [(0, Value.ref (enc 0 0)), (1, Value.ref (enc 13 3)), (2, Value.ref (enc 13 4)), (4, Value.ref (enc 13 6)), (5, Value.ref (enc 13 7)), (6, Value.ref (enc 13 8)), (7, Value.ref (enc 13 9)), (9, Value.ref (enc 13 11)), (10, Value.ref (enc 13 12)), (11, Value.int x11), (12, Value.int x12), (15, Value.int x15), (16, Value.int x16)] []) {k416 : Int32 → Int32 → Int32 → Int32 → Int32 → Int32 → Int32 → Int32 → Int32 → Sg → Prop} (hk416 : ∀ {x11 : Int32} {x12 : Int32} {x15 : Int32} {x16 : Int32} {x17 : Int32} {x18 : Int32} {x19 : Int32} {x20 : Int32} {x21 : Int32} {S : Sg}, k416 x11 x12 x15 x16 x17 x18 x19 x20 x21 S → V X p l e R s m args below meth c 23 (QM X below args s S0 ad0 rvI Qa) S0 ad0 S 416 [(0, Value.ref (enc 0 0)), (1, Value.ref (enc 13 3)), (2, Value.ref (enc 13 4)), (4, Value.ref (enc 13 6)), (5, Value.ref (enc 13 7)), (6, Value.ref (enc 13 8)), (7, Value.ref (enc 13 9)), (9, Value.ref (enc 13 11)), (10, Value.ref (enc 13 12)), (11, Value.int x11), (12, Value.int x12), (15, Value.int x15), (16, Value.int x16), (17, Value.int x17), (18, Value.int x18), (19, Value.int x19), (20, Value.int x20), (21, Value.int x21)] []) {x11 : Int32} {x12 : Int32} {x16 : Int32} {x17 : Int32} {x18 : Int32} {x19 : Int32} {x20 : Int32} {x21 : Int32} {S : Sg} (h : w_L_isSo_539 k374 k416 Qa x11 x12 x16 x17 x18 x19 x20 x21 S) : V X p l e R s m args below meth c 23 (QM X below args s S0 ad0 rvI Qa) S0 ad0 S 539 [(0, Value.ref (enc 0 0)), (1, Value.ref (enc 13 3)), (2, Value.ref (enc 13 4)), (4, Value.ref (enc 13 6)), (5, Value.ref (enc 13 7)), (6, Value.ref (enc 13 8)), (7, Value.ref (enc 13 9)), (9, Value.ref (enc 13 11)), (10, Value.ref (enc 13 12)), (11, Value.int x11), (12, Value.int x12), (16, Value.int x16), (17, Value.int x17), (18, Value.int x18), (19, Value.int x19), (20, Value.int x20), (21, Value.int x21)] [] := by
  refine V_iconst (pc := 539) C (v := 1) dL_isSo_539 rfl ?_
  refine V_goto (pc := 540) (tgt := 544) C dL_isSo_540 (by decide) ?_
  refine V_sub [0, 1, 2, 3, 4, 5, 6, 7, 8, 9, 10, 11, 12, 13, 14, 15, 16] rfl ?_
  exact k_L_isSo_544 hT hl C hr hnm htab (fun h => hk374 h) (fun h => hk416 h) h
def w_L_isSo_536 (k374 : Int32 → Int32 → Int32 → Int32 → Sg → Prop) (k416 : Int32 → Int32 → Int32 → Int32 → Int32 → Int32 → Int32 → Int32 → Int32 → Sg → Prop) (Q : Nat → Int32 → Sg → Prop) (x11 : Int32) (x12 : Int32) (x16 : Int32) (x17 : Int32) (x18 : Int32) (x19 : Int32) (x20 : Int32) (x21 : Int32) (y0 : Int32) (y1 : Int32) (S : Sg) : Prop := ((y1 = y0 → w_L_isSo_539 k374 k416 Q x11 x12 x16 x17 x18 x19 x20 x21 S) ∧ (¬ y1 = y0 → w_L_isSo_543 k374 k416 Q x11 x12 x16 x17 x18 x19 x20 x21 S))
theorem k_L_isSo_536 (hT : xT X = tb1) (hl : l.stackTraces = false) (C : Cn X k0 p l R s m meth c cL_isSo RL 23 14 321) (hr : meth.sig.returnType = (some .boolean)) (hnm : meth.name = yL_isSo.name) (htab : (∀ x ∈ c.exceptionTable.toList, False)) {k374 : Int32 → Int32 → Int32 → Int32 → Sg → Prop} (hk374 : ∀ {x11 : Int32} {x12 : Int32} {x15 : Int32} {x16 : Int32} {S : Sg}, k374 x11 x12 x15 x16 S → V X p l e R s m args below meth c 23 (QM X below args s S0 ad0 rvI Qa) S0 ad0 S 374 [(0, Value.ref (enc 0 0)), (1, Value.ref (enc 13 3)), (2, Value.ref (enc 13 4)), (4, Value.ref (enc 13 6)), (5, Value.ref (enc 13 7)), (6, Value.ref (enc 13 8)), (7, Value.ref (enc 13 9)), (9, Value.ref (enc 13 11)), (10, Value.ref (enc 13 12)), (11, Value.int x11), (12, Value.int x12), (15, Value.int x15), (16, Value.int x16)] []) {k416 : Int32 → Int32 → Int32 → Int32 → Int32 → Int32 → Int32 → Int32 → Int32 → Sg → Prop} (hk416 : ∀ {x11 : Int32} {x12 : Int32} {x15 : Int32} {x16 : Int32} {x17 : Int32} {x18 : Int32} {x19 : Int32} {x20 : Int32} {x21 : Int32} {S : Sg}, k416 x11 x12 x15 x16 x17 x18 x19 x20 x21 S → V X p l e R s m args below meth c 23 (QM X below args s S0 ad0 rvI Qa) S0 ad0 S 416 [(0, Value.ref (enc 0 0)), (1, Value.ref (enc 13 3)), (2, Value.ref (enc 13 4)), (4, Value.ref (enc 13 6)), (5, Value.ref (enc 13 7)), (6, Value.ref (enc 13 8)), (7, Value.ref (enc 13 9)), (9, Value.ref (enc 13 11)), (10, Value.ref (enc 13 12)), (11, Value.int x11), (12, Value.int x12), (15, Value.int x15), (16, Value.int x16), (17, Value.int x17), (18, Value.int x18), (19, Value.int x19), (20, Value.int x20), (21, Value.int x21)] []) {x11 : Int32} {x12 : Int32} {x16 : Int32} {x17 : Int32} {x18 : Int32} {x19 : Int32} {x20 : Int32} {x21 : Int32} {y0 : Int32} {y1 : Int32} {S : Sg} (h : w_L_isSo_536 k374 k416 Qa x11 x12 x16 x17 x18 x19 x20 x21 y0 y1 S) : V X p l e R s m args below meth c 23 (QM X below args s S0 ad0 rvI Qa) S0 ad0 S 536 [(0, Value.ref (enc 0 0)), (1, Value.ref (enc 13 3)), (2, Value.ref (enc 13 4)), (4, Value.ref (enc 13 6)), (5, Value.ref (enc 13 7)), (6, Value.ref (enc 13 8)), (7, Value.ref (enc 13 9)), (9, Value.ref (enc 13 11)), (10, Value.ref (enc 13 12)), (11, Value.int x11), (12, Value.int x12), (16, Value.int x16), (17, Value.int x17), (18, Value.int x18), (19, Value.int x19), (20, Value.int x20), (21, Value.int x21)] [Value.int y0, Value.int y1] := by
  refine V_icmp_ne (pc := 536) (tgt := 543) C dL_isSo_536 (by decide) h (fun h => ?_) (fun h => ?_)
  · refine V_sub [0, 1, 2, 3, 4, 5, 6, 7, 8, 9, 10, 11, 12, 13, 14, 15, 16] rfl ?_
    exact k_L_isSo_543 hT hl C hr hnm htab (fun h => hk374 h) (fun h => hk416 h) h
  · refine V_sub [0, 1, 2, 3, 4, 5, 6, 7, 8, 9, 10, 11, 12, 13, 14, 15, 16] rfl ?_
    exact k_L_isSo_539 hT hl C hr hnm htab (fun h => hk374 h) (fun h => hk416 h) h
def w_L_isSo_463 (k374 : Int32 → Int32 → Int32 → Int32 → Sg → Prop) (k416 : Int32 → Int32 → Int32 → Int32 → Int32 → Int32 → Int32 → Int32 → Int32 → Sg → Prop) (Q : Nat → Int32 → Sg → Prop) (x11 : Int32) (x12 : Int32) (x15 : Int32) (x16 : Int32) (x17 : Int32) (x19 : Int32) (x20 : Int32) (x21 : Int32) (x22 : Int32) (y0 : Int32) (y1 : Int32) (S : Sg) : Prop := (∀ v84, v84 = y1 + y0 → ((x15 = 0 → w_L_isSo_543 k374 k416 Q x11 x12 x16 x17 v84 x19 x20 x21 S) ∧ (¬ x15 = 0 → (vp_in x16 11 ∧ (vp_in (((S.1 106 (nt x16)) / 4) - ((S.1 106 (nt x16)) / 4) / 4 * 4) 7 ∧ (((((S.1 103 (nt (((S.1 106 (nt x16)) / 4) - ((S.1 106 (nt x16)) / 4) / 4 * 4))) - (S.1 103 (nt (((S.1 106 (nt x16)) / 4) - ((S.1 106 (nt x16)) / 4) / 4 * 4))) / 8 * 8) * x20) ≤ x21 → w_L_isSo_539 k374 k416 Q x11 x12 x16 x17 v84 x19 x20 x21 S) ∧ (¬ (((S.1 103 (nt (((S.1 106 (nt x16)) / 4) - ((S.1 106 (nt x16)) / 4) / 4 * 4))) - (S.1 103 (nt (((S.1 106 (nt x16)) / 4) - ((S.1 106 (nt x16)) / 4) / 4 * 4))) / 8 * 8) * x20) ≤ x21 → (¬ x20 = 0 ∧ (¬ x20 = 0 ∧ (w_X7_seat x16 (x21 / x20) (x21 - x21 / x20 * x20) S (fun k87 v86 S85 => (k87 = 0 → ((x22 ≤ 0 → ((0 ≤ x22 → w_L_isSo_536 k374 k416 Q x11 x12 x16 x17 v84 x19 x20 x21 (-1) v86 S85) ∧ (¬ 0 ≤ x22 → w_L_isSo_536 k374 k416 Q x11 x12 x16 x17 v84 x19 x20 x21 (999 - x22) v86 S85))) ∧ (¬ x22 ≤ 0 → w_L_isSo_536 k374 k416 Q x11 x12 x16 x17 v84 x19 x20 x21 (x22 - 1) v86 S85))) ∧ (¬ k87 = 0 → Q k87 0 S85))))))))))))
theorem k_L_isSo_463 (hT : xT X = tb1) (hl : l.stackTraces = false) (C : Cn X k0 p l R s m meth c cL_isSo RL 23 14 321) (hr : meth.sig.returnType = (some .boolean)) (hnm : meth.name = yL_isSo.name) (htab : (∀ x ∈ c.exceptionTable.toList, False)) {k374 : Int32 → Int32 → Int32 → Int32 → Sg → Prop} (hk374 : ∀ {x11 : Int32} {x12 : Int32} {x15 : Int32} {x16 : Int32} {S : Sg}, k374 x11 x12 x15 x16 S → V X p l e R s m args below meth c 23 (QM X below args s S0 ad0 rvI Qa) S0 ad0 S 374 [(0, Value.ref (enc 0 0)), (1, Value.ref (enc 13 3)), (2, Value.ref (enc 13 4)), (4, Value.ref (enc 13 6)), (5, Value.ref (enc 13 7)), (6, Value.ref (enc 13 8)), (7, Value.ref (enc 13 9)), (9, Value.ref (enc 13 11)), (10, Value.ref (enc 13 12)), (11, Value.int x11), (12, Value.int x12), (15, Value.int x15), (16, Value.int x16)] []) {k416 : Int32 → Int32 → Int32 → Int32 → Int32 → Int32 → Int32 → Int32 → Int32 → Sg → Prop} (hk416 : ∀ {x11 : Int32} {x12 : Int32} {x15 : Int32} {x16 : Int32} {x17 : Int32} {x18 : Int32} {x19 : Int32} {x20 : Int32} {x21 : Int32} {S : Sg}, k416 x11 x12 x15 x16 x17 x18 x19 x20 x21 S → V X p l e R s m args below meth c 23 (QM X below args s S0 ad0 rvI Qa) S0 ad0 S 416 [(0, Value.ref (enc 0 0)), (1, Value.ref (enc 13 3)), (2, Value.ref (enc 13 4)), (4, Value.ref (enc 13 6)), (5, Value.ref (enc 13 7)), (6, Value.ref (enc 13 8)), (7, Value.ref (enc 13 9)), (9, Value.ref (enc 13 11)), (10, Value.ref (enc 13 12)), (11, Value.int x11), (12, Value.int x12), (15, Value.int x15), (16, Value.int x16), (17, Value.int x17), (18, Value.int x18), (19, Value.int x19), (20, Value.int x20), (21, Value.int x21)] []) {x11 : Int32} {x12 : Int32} {x15 : Int32} {x16 : Int32} {x17 : Int32} {x19 : Int32} {x20 : Int32} {x21 : Int32} {x22 : Int32} {y0 : Int32} {y1 : Int32} {S : Sg} (h : w_L_isSo_463 k374 k416 Qa x11 x12 x15 x16 x17 x19 x20 x21 x22 y0 y1 S) : V X p l e R s m args below meth c 23 (QM X below args s S0 ad0 rvI Qa) S0 ad0 S 463 [(0, Value.ref (enc 0 0)), (1, Value.ref (enc 13 3)), (2, Value.ref (enc 13 4)), (4, Value.ref (enc 13 6)), (5, Value.ref (enc 13 7)), (6, Value.ref (enc 13 8)), (7, Value.ref (enc 13 9)), (9, Value.ref (enc 13 11)), (10, Value.ref (enc 13 12)), (11, Value.int x11), (12, Value.int x12), (15, Value.int x15), (16, Value.int x16), (17, Value.int x17), (19, Value.int x19), (20, Value.int x20), (21, Value.int x21), (22, Value.int x22)] [Value.int y0, Value.int y1] := by
  refine V_iadd (pc := 463) C dL_isSo_463 ?_
  refine V_nI fun v84 e9 => ?_
  replace h := h v84 e9; clear e9
  refine V_istore (pc := 464) C dL_isSo_464 (by decide) rfl ?_
  refine V_iload (pc := 466) C dL_isSo_466 12 rfl ?_
  refine V_if_eq (pc := 468) (tgt := 543) C dL_isSo_468 (by decide) h (fun h => ?_) (fun h => ?_)
  · refine V_sub [1, 2, 3, 4, 5, 6, 7, 8, 9, 10, 11, 13, 14, 0, 15, 16, 17] rfl ?_
    exact k_L_isSo_543 hT hl C hr hnm htab (fun h => hk374 h) (fun h => hk416 h) h
  · refine V_iload (pc := 471) C dL_isSo_471 17 rfl ?_
    refine V_aload_n (pc := 473) C dL_isSo_473 rfl 2 rfl ?_
    refine V_aload (pc := 474) C dL_isSo_474 4 rfl ?_
    refine V_iload (pc := 476) C dL_isSo_476 13 rfl ?_
    refine V_mld (pc := 478) C hT tb1_arr (n := 11) (c9 := 106) rfl rfl rfl h dL_isSo_478 (fun h => ?_)
    refine V_iconst (pc := 479) C (v := 4) dL_isSo_479 rfl ?_
    refine V_idiv (pc := 480) C dL_isSo_480 (by decide) ?_
    refine V_iconst (pc := 481) C (v := 4) dL_isSo_481 rfl ?_
    refine V_irem (pc := 482) C dL_isSo_482 (by decide) ?_
    refine V_mld (pc := 483) C hT tb1_arr (n := 7) (c9 := 103) rfl rfl rfl h dL_isSo_483 (fun h => ?_)
    refine V_bipush (pc := 484) C (v := 8) dL_isSo_484 rfl ?_
    refine V_irem (pc := 486) C dL_isSo_486 (by decide) ?_
    refine V_iload (pc := 487) C dL_isSo_487 16 rfl ?_
    refine V_imul (pc := 489) C dL_isSo_489 ?_
    refine V_icmp_ge (pc := 490) (tgt := 539) C dL_isSo_490 (by decide) h (fun h => ?_) (fun h => ?_)
    · refine V_sub [1, 2, 3, 4, 5, 6, 7, 8, 9, 10, 11, 13, 14, 0, 15, 16, 17] rfl ?_
      exact k_L_isSo_539 hT hl C hr hnm htab (fun h => hk374 h) (fun h => hk416 h) h
    · refine V_aload_n (pc := 493) C dL_isSo_493 rfl 1 rfl ?_
      refine V_iload (pc := 494) C dL_isSo_494 13 rfl ?_
      refine V_iload (pc := 496) C dL_isSo_496 17 rfl ?_
      refine V_iload (pc := 498) C dL_isSo_498 16 rfl ?_
      refine V_idiv (pc := 500) C dL_isSo_500 h.1 ?_
      replace h := h.2
      refine V_iload (pc := 501) C dL_isSo_501 17 rfl ?_
      refine V_iload (pc := 503) C dL_isSo_503 16 rfl ?_
      refine V_irem (pc := 505) C dL_isSo_505 h.1 ?_
      replace h := h.2
      refine V_callV (pc := 506) C (ct_X7_seat hT hl h) g761 g762 g763 g764 g33 ⟨by decide, by decide, pl_X7_seat⟩ (enc_ne63 (by decide)) (ct_obj hT rfl (by decide)) rfl ⟨by decide, by decide⟩ (rest := []) rfl (le8 rfl) dL_isSo_506 (fun v86 S85 h => ?_) (fun k9 S9 hk h => VX_out C htab hk (h.2 (by omega)))
      replace h := h.1 rfl
      refine V_st (st' := [Value.int v86]) rfl ?_
      refine V_iload (pc := 509) C dL_isSo_509 18 rfl ?_
      refine V_if_le (pc := 511) (tgt := 521) C dL_isSo_511 (by decide) h (fun h => ?_) (fun h => ?_)
      · refine V_iload (pc := 521) C dL_isSo_521 18 rfl ?_
        refine V_if_ge (pc := 523) (tgt := 535) C dL_isSo_523 (by decide) h (fun h => ?_) (fun h => ?_)
        · refine V_iconst (pc := 535) C (v := (-1)) dL_isSo_535 rfl ?_
          refine V_sub [1, 2, 3, 4, 5, 6, 7, 8, 9, 10, 11, 13, 14, 0, 15, 16, 17] rfl ?_
          exact k_L_isSo_536 hT hl C hr hnm htab (fun h => hk374 h) (fun h => hk416 h) h
        · refine V_sipush (pc := 526) C (v := 999) dL_isSo_526 rfl ?_
          refine V_iload (pc := 529) C dL_isSo_529 18 rfl ?_
          refine V_isub (pc := 531) C dL_isSo_531 ?_
          refine V_goto (pc := 532) (tgt := 536) C dL_isSo_532 (by decide) ?_
          refine V_sub [1, 2, 3, 4, 5, 6, 7, 8, 9, 10, 11, 13, 14, 0, 15, 16, 17] rfl ?_
          exact k_L_isSo_536 hT hl C hr hnm htab (fun h => hk374 h) (fun h => hk416 h) h
      · refine V_iload (pc := 514) C dL_isSo_514 18 rfl ?_
        refine V_iconst (pc := 516) C (v := 1) dL_isSo_516 rfl ?_
        refine V_isub (pc := 517) C dL_isSo_517 ?_
        refine V_goto (pc := 518) (tgt := 536) C dL_isSo_518 (by decide) ?_
        refine V_sub [1, 2, 3, 4, 5, 6, 7, 8, 9, 10, 11, 13, 14, 0, 15, 16, 17] rfl ?_
        exact k_L_isSo_536 hT hl C hr hnm htab (fun h => hk374 h) (fun h => hk416 h) h
def w_L_isSo_448 (k374 : Int32 → Int32 → Int32 → Int32 → Sg → Prop) (k416 : Int32 → Int32 → Int32 → Int32 → Int32 → Int32 → Int32 → Int32 → Int32 → Sg → Prop) (Q : Nat → Int32 → Sg → Prop) (x11 : Int32) (x12 : Int32) (x15 : Int32) (x16 : Int32) (x18 : Int32) (x19 : Int32) (x20 : Int32) (x21 : Int32) (x22 : Int32) (y0 : Int32) (y1 : Int32) (S : Sg) : Prop := (∀ v88, v88 = y1 + y0 → ((0 ≤ x22 → w_L_isSo_463 k374 k416 Q x11 x12 x15 x16 v88 x19 x20 x21 x22 0 x18 S) ∧ (¬ 0 ≤ x22 → w_L_isSo_463 k374 k416 Q x11 x12 x15 x16 v88 x19 x20 x21 x22 1 x18 S)))
theorem k_L_isSo_448 (hT : xT X = tb1) (hl : l.stackTraces = false) (C : Cn X k0 p l R s m meth c cL_isSo RL 23 14 321) (hr : meth.sig.returnType = (some .boolean)) (hnm : meth.name = yL_isSo.name) (htab : (∀ x ∈ c.exceptionTable.toList, False)) {k374 : Int32 → Int32 → Int32 → Int32 → Sg → Prop} (hk374 : ∀ {x11 : Int32} {x12 : Int32} {x15 : Int32} {x16 : Int32} {S : Sg}, k374 x11 x12 x15 x16 S → V X p l e R s m args below meth c 23 (QM X below args s S0 ad0 rvI Qa) S0 ad0 S 374 [(0, Value.ref (enc 0 0)), (1, Value.ref (enc 13 3)), (2, Value.ref (enc 13 4)), (4, Value.ref (enc 13 6)), (5, Value.ref (enc 13 7)), (6, Value.ref (enc 13 8)), (7, Value.ref (enc 13 9)), (9, Value.ref (enc 13 11)), (10, Value.ref (enc 13 12)), (11, Value.int x11), (12, Value.int x12), (15, Value.int x15), (16, Value.int x16)] []) {k416 : Int32 → Int32 → Int32 → Int32 → Int32 → Int32 → Int32 → Int32 → Int32 → Sg → Prop} (hk416 : ∀ {x11 : Int32} {x12 : Int32} {x15 : Int32} {x16 : Int32} {x17 : Int32} {x18 : Int32} {x19 : Int32} {x20 : Int32} {x21 : Int32} {S : Sg}, k416 x11 x12 x15 x16 x17 x18 x19 x20 x21 S → V X p l e R s m args below meth c 23 (QM X below args s S0 ad0 rvI Qa) S0 ad0 S 416 [(0, Value.ref (enc 0 0)), (1, Value.ref (enc 13 3)), (2, Value.ref (enc 13 4)), (4, Value.ref (enc 13 6)), (5, Value.ref (enc 13 7)), (6, Value.ref (enc 13 8)), (7, Value.ref (enc 13 9)), (9, Value.ref (enc 13 11)), (10, Value.ref (enc 13 12)), (11, Value.int x11), (12, Value.int x12), (15, Value.int x15), (16, Value.int x16), (17, Value.int x17), (18, Value.int x18), (19, Value.int x19), (20, Value.int x20), (21, Value.int x21)] []) {x11 : Int32} {x12 : Int32} {x15 : Int32} {x16 : Int32} {x18 : Int32} {x19 : Int32} {x20 : Int32} {x21 : Int32} {x22 : Int32} {y0 : Int32} {y1 : Int32} {S : Sg} (h : w_L_isSo_448 k374 k416 Qa x11 x12 x15 x16 x18 x19 x20 x21 x22 y0 y1 S) : V X p l e R s m args below meth c 23 (QM X below args s S0 ad0 rvI Qa) S0 ad0 S 448 [(0, Value.ref (enc 0 0)), (1, Value.ref (enc 13 3)), (2, Value.ref (enc 13 4)), (4, Value.ref (enc 13 6)), (5, Value.ref (enc 13 7)), (6, Value.ref (enc 13 8)), (7, Value.ref (enc 13 9)), (9, Value.ref (enc 13 11)), (10, Value.ref (enc 13 12)), (11, Value.int x11), (12, Value.int x12), (15, Value.int x15), (16, Value.int x16), (18, Value.int x18), (19, Value.int x19), (20, Value.int x20), (21, Value.int x21), (22, Value.int x22)] [Value.int y0, Value.int y1] := by
  refine V_iadd (pc := 448) C dL_isSo_448 ?_
  refine V_nI fun v88 e9 => ?_
  replace h := h v88 e9; clear e9
  refine V_istore (pc := 449) C dL_isSo_449 (by decide) rfl ?_
  refine V_iload (pc := 451) C dL_isSo_451 14 rfl ?_
  refine V_iload (pc := 453) C dL_isSo_453 18 rfl ?_
  refine V_if_ge (pc := 455) (tgt := 462) C dL_isSo_455 (by decide) h (fun h => ?_) (fun h => ?_)
  · refine V_iconst (pc := 462) C (v := 0) dL_isSo_462 rfl ?_
    refine V_sub [1, 2, 3, 4, 5, 6, 7, 8, 9, 10, 11, 12, 13, 0, 15, 16, 17, 18] rfl ?_
    exact k_L_isSo_463 hT hl C hr hnm htab (fun h => hk374 h) (fun h => hk416 h) h
  · refine V_iconst (pc := 458) C (v := 1) dL_isSo_458 rfl ?_
    refine V_goto (pc := 459) (tgt := 463) C dL_isSo_459 (by decide) ?_
    refine V_sub [1, 2, 3, 4, 5, 6, 7, 8, 9, 10, 11, 12, 13, 0, 15, 16, 17, 18] rfl ?_
    exact k_L_isSo_463 hT hl C hr hnm htab (fun h => hk374 h) (fun h => hk416 h) h
def w_L_isSo_416 (k374 : Int32 → Int32 → Int32 → Int32 → Sg → Prop) (Q : Nat → Int32 → Sg → Prop) : Nat → Int32 → Int32 → Int32 → Int32 → Int32 → Int32 → Int32 → Int32 → Int32 → Sg → Prop
  | 0, _, _, _, _, _, _, _, _, _, _ => False
  | n + 1, x11, x12, x15, x16, x17, x18, x19, x20, x21, S => ((12 ≤ x21 → ∃ n9, w_L_isSo_555 k374 Q n9 x11 x12 x15 x16 x17 x18 x19 0 S) ∧ (¬ 12 ≤ x21 → (vp_in ((12 * x16) + x21) 60 ∧ (∀ v89, v89 = S.1 107 (nt ((12 * x16) + x21)) → ((v89 ≤ 0 → w_L_isSo_448 k374 (fun x11 x12 x15 x16 x17 x18 x19 x20 x21 S => w_L_isSo_416 k374 Q n x11 x12 x15 x16 x17 x18 x19 x20 x21 S) Q x11 x12 x15 x16 x18 x19 x20 x21 v89 0 x17 S) ∧ (¬ v89 ≤ 0 → w_L_isSo_448 k374 (fun x11 x12 x15 x16 x17 x18 x19 x20 x21 S => w_L_isSo_416 k374 Q n x11 x12 x15 x16 x17 x18 x19 x20 x21 S) Q x11 x12 x15 x16 x18 x19 x20 x21 v89 1 x17 S))))))
theorem k_L_isSo_416 (hT : xT X = tb1) (hl : l.stackTraces = false) (C : Cn X k0 p l R s m meth c cL_isSo RL 23 14 321) (hr : meth.sig.returnType = (some .boolean)) (hnm : meth.name = yL_isSo.name) (htab : (∀ x ∈ c.exceptionTable.toList, False)) {k374 : Int32 → Int32 → Int32 → Int32 → Sg → Prop} (hk374 : ∀ {x11 : Int32} {x12 : Int32} {x15 : Int32} {x16 : Int32} {S : Sg}, k374 x11 x12 x15 x16 S → V X p l e R s m args below meth c 23 (QM X below args s S0 ad0 rvI Qa) S0 ad0 S 374 [(0, Value.ref (enc 0 0)), (1, Value.ref (enc 13 3)), (2, Value.ref (enc 13 4)), (4, Value.ref (enc 13 6)), (5, Value.ref (enc 13 7)), (6, Value.ref (enc 13 8)), (7, Value.ref (enc 13 9)), (9, Value.ref (enc 13 11)), (10, Value.ref (enc 13 12)), (11, Value.int x11), (12, Value.int x12), (15, Value.int x15), (16, Value.int x16)] []) : ∀ n {x11 : Int32} {x12 : Int32} {x15 : Int32} {x16 : Int32} {x17 : Int32} {x18 : Int32} {x19 : Int32} {x20 : Int32} {x21 : Int32} {S : Sg}, w_L_isSo_416 k374 Qa n x11 x12 x15 x16 x17 x18 x19 x20 x21 S → V X p l e R s m args below meth c 23 (QM X below args s S0 ad0 rvI Qa) S0 ad0 S 416 [(0, Value.ref (enc 0 0)), (1, Value.ref (enc 13 3)), (2, Value.ref (enc 13 4)), (4, Value.ref (enc 13 6)), (5, Value.ref (enc 13 7)), (6, Value.ref (enc 13 8)), (7, Value.ref (enc 13 9)), (9, Value.ref (enc 13 11)), (10, Value.ref (enc 13 12)), (11, Value.int x11), (12, Value.int x12), (15, Value.int x15), (16, Value.int x16), (17, Value.int x17), (18, Value.int x18), (19, Value.int x19), (20, Value.int x20), (21, Value.int x21)] [] := by
  intro n
  induction n with
  | zero => intro x11 x12 x15 x16 x17 x18 x19 x20 x21 S h; exact h.elim
  | succ n ih =>
    intro x11 x12 x15 x16 x17 x18 x19 x20 x21 S h
    refine V_iload (pc := 416) C dL_isSo_416 17 rfl ?_
    refine V_bipush (pc := 418) C (v := 12) dL_isSo_418 rfl ?_
    refine V_icmp_ge (pc := 420) (tgt := 552) C dL_isSo_420 (by decide) h (fun h => ?_) (fun h => ?_)
    · refine V_iconst (pc := 552) C (v := 0) dL_isSo_552 rfl ?_
      refine V_istore (pc := 553) C dL_isSo_553 (by decide) rfl ?_
      refine V_sub [1, 2, 3, 4, 5, 6, 7, 8, 9, 10, 11, 12, 13, 14, 15, 16, 0] rfl ?_
      obtain ⟨n9, h⟩ := h
      exact k_L_isSo_555 hT hl C hr hnm htab (fun h => hk374 h) n9 h
    · refine V_aload (pc := 423) C dL_isSo_423 4 rfl ?_
      refine V_bipush (pc := 425) C (v := 12) dL_isSo_425 rfl ?_
      refine V_iload (pc := 427) C dL_isSo_427 12 rfl ?_
      refine V_imul (pc := 429) C dL_isSo_429 ?_
      refine V_iload (pc := 430) C dL_isSo_430 17 rfl ?_
      refine V_iadd (pc := 432) C dL_isSo_432 ?_
      refine V_mld (pc := 433) C hT tb1_arr (n := 60) (c9 := 107) rfl rfl rfl h dL_isSo_433 (fun h => ?_)
      refine V_nI fun v89 e9 => ?_
      replace h := h v89 e9; clear e9
      refine V_istore (pc := 434) C dL_isSo_434 (by decide) rfl ?_
      refine V_iload (pc := 436) C dL_isSo_436 14 rfl ?_
      refine V_iload (pc := 438) C dL_isSo_438 0 rfl ?_
      refine V_if_le (pc := 440) (tgt := 447) C dL_isSo_440 (by decide) h (fun h => ?_) (fun h => ?_)
      · refine V_iconst (pc := 447) C (v := 0) dL_isSo_447 rfl ?_
        refine V_sub [1, 2, 3, 4, 5, 6, 7, 8, 9, 10, 11, 12, 13, 15, 16, 17, 18, 0] rfl ?_
        exact k_L_isSo_448 hT hl C hr hnm htab (fun h => hk374 h) (fun h => ih h) h
      · refine V_iconst (pc := 443) C (v := 1) dL_isSo_443 rfl ?_
        refine V_goto (pc := 444) (tgt := 448) C dL_isSo_444 (by decide) ?_
        refine V_sub [1, 2, 3, 4, 5, 6, 7, 8, 9, 10, 11, 12, 13, 15, 16, 17, 18, 0] rfl ?_
        exact k_L_isSo_448 hT hl C hr hnm htab (fun h => hk374 h) (fun h => ih h) h
def w_L_isSo_374  (Q : Nat → Int32 → Sg → Prop) : Nat → Int32 → Int32 → Int32 → Int32 → Sg → Prop
  | 0, _, _, _, _, _ => False
  | n + 1, x11, x12, x15, x16, S => (vp_in 5 8 ∧ (((S.1 112 (nt 5)) ≤ x16 → w_L_isSo_768  Q x11 x12 x15 S) ∧ (¬ (S.1 112 (nt 5)) ≤ x16 → ((x15 = 0 → w_L_isSo_768  Q x11 x12 x15 S) ∧ (¬ x15 = 0 → (vp_in x16 11 ∧ (vp_in (((S.1 106 (nt x16)) / 4) - ((S.1 106 (nt x16)) / 4) / 4 * 4) 7 ∧ (∀ v90, v90 = (S.1 103 (nt (((S.1 106 (nt x16)) / 4) - ((S.1 106 (nt x16)) / 4) / 4 * 4))) / 8 → ∃ n9, w_L_isSo_416 (fun x11 x12 x15 x16 S => w_L_isSo_374  Q n x11 x12 x15 x16 S) Q n9 x11 x12 x15 x16 0 0 0 v90 0 S))))))))
theorem k_L_isSo_374 (hT : xT X = tb1) (hl : l.stackTraces = false) (C : Cn X k0 p l R s m meth c cL_isSo RL 23 14 321) (hr : meth.sig.returnType = (some .boolean)) (hnm : meth.name = yL_isSo.name) (htab : (∀ x ∈ c.exceptionTable.toList, False))  : ∀ n {x11 : Int32} {x12 : Int32} {x15 : Int32} {x16 : Int32} {S : Sg}, w_L_isSo_374  Qa n x11 x12 x15 x16 S → V X p l e R s m args below meth c 23 (QM X below args s S0 ad0 rvI Qa) S0 ad0 S 374 [(0, Value.ref (enc 0 0)), (1, Value.ref (enc 13 3)), (2, Value.ref (enc 13 4)), (4, Value.ref (enc 13 6)), (5, Value.ref (enc 13 7)), (6, Value.ref (enc 13 8)), (7, Value.ref (enc 13 9)), (9, Value.ref (enc 13 11)), (10, Value.ref (enc 13 12)), (11, Value.int x11), (12, Value.int x12), (15, Value.int x15), (16, Value.int x16)] [] := by
  intro n
  induction n with
  | zero => intro x11 x12 x15 x16 S h; exact h.elim
  | succ n ih =>
    intro x11 x12 x15 x16 S h
    refine V_iload (pc := 374) C dL_isSo_374 12 rfl ?_
    refine V_aload (pc := 376) C dL_isSo_376 8 rfl ?_
    refine V_iconst (pc := 378) C (v := 5) dL_isSo_378 rfl ?_
    refine V_mld (pc := 379) C hT tb1_arr (n := 8) (c9 := 112) rfl rfl rfl h dL_isSo_379 (fun h => ?_)
    refine V_icmp_ge (pc := 380) (tgt := 768) C dL_isSo_380 (by decide) h (fun h => ?_) (fun h => ?_)
    · refine V_sub [0, 1, 2, 3, 5, 6, 8, 9, 10, 11] rfl ?_
      exact k_L_isSo_768 hT hl C hr hnm htab  h
    · refine V_iload (pc := 383) C dL_isSo_383 11 rfl ?_
      refine V_if_eq (pc := 385) (tgt := 768) C dL_isSo_385 (by decide) h (fun h => ?_) (fun h => ?_)
      · refine V_sub [0, 1, 2, 3, 5, 6, 8, 9, 10, 11] rfl ?_
        exact k_L_isSo_768 hT hl C hr hnm htab  h
      · refine V_iconst (pc := 388) C (v := 0) dL_isSo_388 rfl ?_
        refine V_istore (pc := 389) C dL_isSo_389 (by decide) rfl ?_
        refine V_iconst (pc := 391) C (v := 0) dL_isSo_391 rfl ?_
        refine V_istore (pc := 392) C dL_isSo_392 (by decide) rfl ?_
        refine V_iconst (pc := 394) C (v := 0) dL_isSo_394 rfl ?_
        refine V_istore (pc := 395) C dL_isSo_395 (by decide) rfl ?_
        refine V_aload_n (pc := 397) C dL_isSo_397 rfl 4 rfl ?_
        refine V_aload (pc := 398) C dL_isSo_398 6 rfl ?_
        refine V_iload (pc := 400) C dL_isSo_400 15 rfl ?_
        refine V_mld (pc := 402) C hT tb1_arr (n := 11) (c9 := 106) rfl rfl rfl h dL_isSo_402 (fun h => ?_)
        refine V_iconst (pc := 403) C (v := 4) dL_isSo_403 rfl ?_
        refine V_idiv (pc := 404) C dL_isSo_404 (by decide) ?_
        refine V_iconst (pc := 405) C (v := 4) dL_isSo_405 rfl ?_
        refine V_irem (pc := 406) C dL_isSo_406 (by decide) ?_
        refine V_mld (pc := 407) C hT tb1_arr (n := 7) (c9 := 103) rfl rfl rfl h dL_isSo_407 (fun h => ?_)
        refine V_bipush (pc := 408) C (v := 8) dL_isSo_408 rfl ?_
        refine V_idiv (pc := 410) C dL_isSo_410 (by decide) ?_
        refine V_nI fun v90 e9 => ?_
        replace h := h v90 e9; clear e9
        refine V_istore (pc := 411) C dL_isSo_411 (by decide) rfl ?_
        refine V_iconst (pc := 413) C (v := 0) dL_isSo_413 rfl ?_
        refine V_istore (pc := 414) C dL_isSo_414 (by decide) rfl ?_
        refine V_sub [5, 6, 7, 8, 9, 10, 11, 12, 13, 14, 15, 16, 17, 4, 3, 2, 1, 0] rfl ?_
        obtain ⟨n9, h⟩ := h
        exact k_L_isSo_416 hT hl C hr hnm htab (fun h => ih h) n9 h
def w_L_isSo_371  (Q : Nat → Int32 → Sg → Prop) (x11 : Int32) (x12 : Int32) (x15 : Int32) (S : Sg) : Prop := ∃ n9, w_L_isSo_374  Q n9 x11 x12 x15 0 S
theorem k_L_isSo_371 (hT : xT X = tb1) (hl : l.stackTraces = false) (C : Cn X k0 p l R s m meth c cL_isSo RL 23 14 321) (hr : meth.sig.returnType = (some .boolean)) (hnm : meth.name = yL_isSo.name) (htab : (∀ x ∈ c.exceptionTable.toList, False))  {x11 : Int32} {x12 : Int32} {x15 : Int32} {S : Sg} (h : w_L_isSo_371  Qa x11 x12 x15 S) : V X p l e R s m args below meth c 23 (QM X below args s S0 ad0 rvI Qa) S0 ad0 S 371 [(0, Value.ref (enc 0 0)), (1, Value.ref (enc 13 3)), (2, Value.ref (enc 13 4)), (4, Value.ref (enc 13 6)), (5, Value.ref (enc 13 7)), (6, Value.ref (enc 13 8)), (7, Value.ref (enc 13 9)), (9, Value.ref (enc 13 11)), (10, Value.ref (enc 13 12)), (11, Value.int x11), (12, Value.int x12), (15, Value.int x15)] [] := by
  refine V_iconst (pc := 371) C (v := 0) dL_isSo_371 rfl ?_
  refine V_istore (pc := 372) C dL_isSo_372 (by decide) rfl ?_
  refine V_sub [1, 2, 3, 4, 5, 6, 7, 8, 9, 10, 11, 12, 0] rfl ?_
  obtain ⟨n9, h⟩ := h
  exact k_L_isSo_374 hT hl C hr hnm htab  n9 h
def w_L_isSo_365 (k142 : Int32 → Int32 → Int32 → Int32 → Sg → Prop) (Q : Nat → Int32 → Sg → Prop) (x11 : Int32) (x12 : Int32) (x15 : Int32) (x16 : Int32) (S : Sg) : Prop := k142 x11 x12 x15 (x16 + 1) S
theorem k_L_isSo_365 (hT : xT X = tb1) (hl : l.stackTraces = false) (C : Cn X k0 p l R s m meth c cL_isSo RL 23 14 321) (hr : meth.sig.returnType = (some .boolean)) (hnm : meth.name = yL_isSo.name) (htab : (∀ x ∈ c.exceptionTable.toList, False)) {k142 : Int32 → Int32 → Int32 → Int32 → Sg → Prop} (hk142 : ∀ {x11 : Int32} {x12 : Int32} {x15 : Int32} {x16 : Int32} {S : Sg}, k142 x11 x12 x15 x16 S → V X p l e R s m args below meth c 23 (QM X below args s S0 ad0 rvI Qa) S0 ad0 S 142 [(0, Value.ref (enc 0 0)), (1, Value.ref (enc 13 3)), (2, Value.ref (enc 13 4)), (3, Value.ref (enc 13 5)), (4, Value.ref (enc 13 6)), (5, Value.ref (enc 13 7)), (6, Value.ref (enc 13 8)), (7, Value.ref (enc 13 9)), (9, Value.ref (enc 13 11)), (10, Value.ref (enc 13 12)), (11, Value.int x11), (12, Value.int x12), (15, Value.int x15), (16, Value.int x16)] []) {x11 : Int32} {x12 : Int32} {x15 : Int32} {x16 : Int32} {S : Sg} (h : w_L_isSo_365 k142 Qa x11 x12 x15 x16 S) : V X p l e R s m args below meth c 23 (QM X below args s S0 ad0 rvI Qa) S0 ad0 S 365 [(0, Value.ref (enc 0 0)), (1, Value.ref (enc 13 3)), (2, Value.ref (enc 13 4)), (3, Value.ref (enc 13 5)), (4, Value.ref (enc 13 6)), (5, Value.ref (enc 13 7)), (6, Value.ref (enc 13 8)), (7, Value.ref (enc 13 9)), (9, Value.ref (enc 13 11)), (10, Value.ref (enc 13 12)), (11, Value.int x11), (12, Value.int x12), (15, Value.int x15), (16, Value.int x16)] [] := by
  refine V_iinc (pc := 365) C (a := 13) (v := x16 + 1) dL_isSo_365 rfl rfl (by decide) rfl ?_
  refine V_goto (pc := 368) (tgt := 142) C dL_isSo_368 (by decide) ?_
  refine V_sub [1, 2, 3, 4, 5, 6, 7, 8, 9, 10, 11, 12, 13, 0] rfl ?_
  exact hk142 h
def w_L_isSo_357 (k142 : Int32 → Int32 → Int32 → Int32 → Sg → Prop) (k290 : Int32 → Int32 → Int32 → Int32 → Int32 → Sg → Prop) (Q : Nat → Int32 → Sg → Prop) (x11 : Int32) (x12 : Int32) (x16 : Int32) (x18 : Int32) (y0 : Int32) (S : Sg) : Prop := k290 x11 x12 y0 x16 (x18 + 1) S
theorem k_L_isSo_357 (hT : xT X = tb1) (hl : l.stackTraces = false) (C : Cn X k0 p l R s m meth c cL_isSo RL 23 14 321) (hr : meth.sig.returnType = (some .boolean)) (hnm : meth.name = yL_isSo.name) (htab : (∀ x ∈ c.exceptionTable.toList, False)) {k142 : Int32 → Int32 → Int32 → Int32 → Sg → Prop} (hk142 : ∀ {x11 : Int32} {x12 : Int32} {x15 : Int32} {x16 : Int32} {S : Sg}, k142 x11 x12 x15 x16 S → V X p l e R s m args below meth c 23 (QM X below args s S0 ad0 rvI Qa) S0 ad0 S 142 [(0, Value.ref (enc 0 0)), (1, Value.ref (enc 13 3)), (2, Value.ref (enc 13 4)), (3, Value.ref (enc 13 5)), (4, Value.ref (enc 13 6)), (5, Value.ref (enc 13 7)), (6, Value.ref (enc 13 8)), (7, Value.ref (enc 13 9)), (9, Value.ref (enc 13 11)), (10, Value.ref (enc 13 12)), (11, Value.int x11), (12, Value.int x12), (15, Value.int x15), (16, Value.int x16)] []) {k290 : Int32 → Int32 → Int32 → Int32 → Int32 → Sg → Prop} (hk290 : ∀ {x11 : Int32} {x12 : Int32} {x15 : Int32} {x16 : Int32} {x18 : Int32} {S : Sg}, k290 x11 x12 x15 x16 x18 S → V X p l e R s m args below meth c 23 (QM X below args s S0 ad0 rvI Qa) S0 ad0 S 290 [(0, Value.ref (enc 0 0)), (1, Value.ref (enc 13 3)), (2, Value.ref (enc 13 4)), (3, Value.ref (enc 13 5)), (4, Value.ref (enc 13 6)), (5, Value.ref (enc 13 7)), (6, Value.ref (enc 13 8)), (7, Value.ref (enc 13 9)), (9, Value.ref (enc 13 11)), (10, Value.ref (enc 13 12)), (11, Value.int x11), (12, Value.int x12), (15, Value.int x15), (16, Value.int x16), (18, Value.int x18)] []) {x11 : Int32} {x12 : Int32} {x16 : Int32} {x18 : Int32} {y0 : Int32} {S : Sg} (h : w_L_isSo_357 k142 k290 Qa x11 x12 x16 x18 y0 S) : V X p l e R s m args below meth c 23 (QM X below args s S0 ad0 rvI Qa) S0 ad0 S 357 [(0, Value.ref (enc 0 0)), (1, Value.ref (enc 13 3)), (2, Value.ref (enc 13 4)), (3, Value.ref (enc 13 5)), (4, Value.ref (enc 13 6)), (5, Value.ref (enc 13 7)), (6, Value.ref (enc 13 8)), (7, Value.ref (enc 13 9)), (9, Value.ref (enc 13 11)), (10, Value.ref (enc 13 12)), (11, Value.int x11), (12, Value.int x12), (16, Value.int x16), (18, Value.int x18)] [Value.int y0] := by
  refine V_istore (pc := 357) C dL_isSo_357 (by decide) rfl ?_
  refine V_iinc (pc := 359) C (a := 14) (v := x18 + 1) dL_isSo_359 rfl rfl (by decide) rfl ?_
  refine V_goto (pc := 362) (tgt := 290) C dL_isSo_362 (by decide) ?_
  refine V_sub [2, 3, 4, 5, 6, 7, 8, 9, 10, 11, 12, 13, 1, 14, 0] rfl ?_
  exact hk290 h
def w_L_isSo_290 (k142 : Int32 → Int32 → Int32 → Int32 → Sg → Prop) (Q : Nat → Int32 → Sg → Prop) : Nat → Int32 → Int32 → Int32 → Int32 → Int32 → Sg → Prop
  | 0, _, _, _, _, _, _ => False
  | n + 1, x11, x12, x15, x16, x18, S => (vp_in 3 8 ∧ (((S.1 112 (nt 3)) ≤ x18 → w_L_isSo_365 k142 Q x11 x12 x15 x16 S) ∧ (¬ (S.1 112 (nt 3)) ≤ x18 → ((x15 = 0 → w_L_isSo_365 k142 Q x11 x12 x15 x16 S) ∧ (¬ x15 = 0 → (vp_in 0 8 ∧ (∀ v91, v91 = ((S.1 112 (nt 0)) + 1) + (x12 - x12 / 900 * 900) → (w_L_does 16 x18 x16 v91 0 0 S (fun k94 v93 S92 => (k94 = 0 → (w_L_fits x18 x16 v91 S92 (fun k97 v96 S95 => (k97 = 0 → ((v93 = v96 → w_L_isSo_357 k142 (fun x11 x12 x15 x16 x18 S => w_L_isSo_290 k142 Q n x11 x12 x15 x16 x18 S) Q x11 x12 x16 x18 1 S95) ∧ (¬ v93 = v96 → w_L_isSo_357 k142 (fun x11 x12 x15 x16 x18 S => w_L_isSo_290 k142 Q n x11 x12 x15 x16 x18 S) Q x11 x12 x16 x18 0 S95))) ∧ (¬ k97 = 0 → Q k97 0 S95)))) ∧ (¬ k94 = 0 → Q k94 0 S92))))))))))
theorem k_L_isSo_290 (hT : xT X = tb1) (hl : l.stackTraces = false) (C : Cn X k0 p l R s m meth c cL_isSo RL 23 14 321) (hr : meth.sig.returnType = (some .boolean)) (hnm : meth.name = yL_isSo.name) (htab : (∀ x ∈ c.exceptionTable.toList, False)) {k142 : Int32 → Int32 → Int32 → Int32 → Sg → Prop} (hk142 : ∀ {x11 : Int32} {x12 : Int32} {x15 : Int32} {x16 : Int32} {S : Sg}, k142 x11 x12 x15 x16 S → V X p l e R s m args below meth c 23 (QM X below args s S0 ad0 rvI Qa) S0 ad0 S 142 [(0, Value.ref (enc 0 0)), (1, Value.ref (enc 13 3)), (2, Value.ref (enc 13 4)), (3, Value.ref (enc 13 5)), (4, Value.ref (enc 13 6)), (5, Value.ref (enc 13 7)), (6, Value.ref (enc 13 8)), (7, Value.ref (enc 13 9)), (9, Value.ref (enc 13 11)), (10, Value.ref (enc 13 12)), (11, Value.int x11), (12, Value.int x12), (15, Value.int x15), (16, Value.int x16)] []) : ∀ n {x11 : Int32} {x12 : Int32} {x15 : Int32} {x16 : Int32} {x18 : Int32} {S : Sg}, w_L_isSo_290 k142 Qa n x11 x12 x15 x16 x18 S → V X p l e R s m args below meth c 23 (QM X below args s S0 ad0 rvI Qa) S0 ad0 S 290 [(0, Value.ref (enc 0 0)), (1, Value.ref (enc 13 3)), (2, Value.ref (enc 13 4)), (3, Value.ref (enc 13 5)), (4, Value.ref (enc 13 6)), (5, Value.ref (enc 13 7)), (6, Value.ref (enc 13 8)), (7, Value.ref (enc 13 9)), (9, Value.ref (enc 13 11)), (10, Value.ref (enc 13 12)), (11, Value.int x11), (12, Value.int x12), (15, Value.int x15), (16, Value.int x16), (18, Value.int x18)] [] := by
  intro n
  induction n with
  | zero => intro x11 x12 x15 x16 x18 S h; exact h.elim
  | succ n ih =>
    intro x11 x12 x15 x16 x18 S h
    refine V_iload (pc := 290) C dL_isSo_290 14 rfl ?_
    refine V_aload (pc := 292) C dL_isSo_292 9 rfl ?_
    refine V_iconst (pc := 294) C (v := 3) dL_isSo_294 rfl ?_
    refine V_mld (pc := 295) C hT tb1_arr (n := 8) (c9 := 112) rfl rfl rfl h dL_isSo_295 (fun h => ?_)
    refine V_icmp_ge (pc := 296) (tgt := 365) C dL_isSo_296 (by decide) h (fun h => ?_) (fun h => ?_)
    · refine V_sub [0, 1, 2, 3, 4, 5, 6, 7, 8, 9, 10, 11, 12, 13] rfl ?_
      exact k_L_isSo_365 hT hl C hr hnm htab (fun h => hk142 h) h
    · refine V_iload (pc := 299) C dL_isSo_299 12 rfl ?_
      refine V_if_eq (pc := 301) (tgt := 365) C dL_isSo_301 (by decide) h (fun h => ?_) (fun h => ?_)
      · refine V_sub [0, 1, 2, 3, 4, 5, 6, 7, 8, 9, 10, 11, 12, 13] rfl ?_
        exact k_L_isSo_365 hT hl C hr hnm htab (fun h => hk142 h) h
      · refine V_aload (pc := 304) C dL_isSo_304 9 rfl ?_
        refine V_iconst (pc := 306) C (v := 0) dL_isSo_306 rfl ?_
        refine V_mld (pc := 307) C hT tb1_arr (n := 8) (c9 := 112) rfl rfl rfl h dL_isSo_307 (fun h => ?_)
        refine V_iconst (pc := 308) C (v := 1) dL_isSo_308 rfl ?_
        refine V_iadd (pc := 309) C dL_isSo_309 ?_
        refine V_iload (pc := 310) C dL_isSo_310 11 rfl ?_
        refine V_sipush (pc := 312) C (v := 900) dL_isSo_312 rfl ?_
        refine V_irem (pc := 315) C dL_isSo_315 (by decide) ?_
        refine V_iadd (pc := 316) C dL_isSo_316 ?_
        refine V_nI fun v91 e9 => ?_
        replace h := h v91 e9; clear e9
        refine V_istore (pc := 317) C dL_isSo_317 (by decide) rfl ?_
        refine V_aload_n (pc := 319) C dL_isSo_319 rfl 1 rfl ?_
        refine V_bipush (pc := 320) C (v := 16) dL_isSo_320 rfl ?_
        refine V_iload (pc := 322) C dL_isSo_322 15 rfl ?_
        refine V_iload (pc := 324) C dL_isSo_324 14 rfl ?_
        refine V_iload (pc := 326) C dL_isSo_326 0 rfl ?_
        refine V_iconst (pc := 328) C (v := 0) dL_isSo_328 rfl ?_
        refine V_iconst (pc := 329) C (v := 0) dL_isSo_329 rfl ?_
        refine V_callH (pc := 330) C (ct_L_does hT hl h) g119 g120 g121 g32 ⟨by decide, by decide, pl_L_does⟩ ⟨by decide, by decide⟩ (rest := []) rfl (le8 rfl) dL_isSo_330 (fun v93 S92 h => ?_) (fun k9 S9 hk h => VX_out C htab hk (h.2 (by omega)))
        replace h := h.1 rfl
        refine V_st (st' := [Value.int v93]) rfl ?_
        refine V_aload_n (pc := 333) C dL_isSo_333 rfl 2 rfl ?_
        refine V_aload_n (pc := 334) C dL_isSo_334 rfl 3 rfl ?_
        refine V_aload_n (pc := 335) C dL_isSo_335 rfl 4 rfl ?_
        refine V_aload (pc := 336) C dL_isSo_336 5 rfl ?_
        refine V_aload (pc := 338) C dL_isSo_338 10 rfl ?_
        refine V_iload (pc := 340) C dL_isSo_340 15 rfl ?_
        refine V_iload (pc := 342) C dL_isSo_342 14 rfl ?_
        refine V_iload (pc := 344) C dL_isSo_344 0 rfl ?_
        refine V_callS (pc := 346) C (ct_L_fits hT hl h) g805 g806 g807 g32 ⟨by decide, by decide, pl_L_fits⟩ ⟨by decide, by decide⟩ (rest := [Value.int v93]) rfl (le8 rfl) dL_isSo_346 (fun v96 S95 h => ?_) (fun k9 S9 hk h => VX_out C htab hk (h.2 (by omega)))
        replace h := h.1 rfl
        refine V_st (st' := [Value.int v96, Value.int v93]) rfl ?_
        refine V_icmp_ne (pc := 349) (tgt := 356) C dL_isSo_349 (by decide) h (fun h => ?_) (fun h => ?_)
        · refine V_iconst (pc := 356) C (v := 0) dL_isSo_356 rfl ?_
          refine V_sub [1, 2, 3, 4, 5, 6, 7, 8, 9, 10, 11, 12, 14, 15] rfl ?_
          exact k_L_isSo_357 hT hl C hr hnm htab (fun h => hk142 h) (fun h => ih h) h
        · refine V_iconst (pc := 352) C (v := 1) dL_isSo_352 rfl ?_
          refine V_goto (pc := 353) (tgt := 357) C dL_isSo_353 (by decide) ?_
          refine V_sub [1, 2, 3, 4, 5, 6, 7, 8, 9, 10, 11, 12, 14, 15] rfl ?_
          exact k_L_isSo_357 hT hl C hr hnm htab (fun h => hk142 h) (fun h => ih h) h
def w_L_isSo_285 (k142 : Int32 → Int32 → Int32 → Int32 → Sg → Prop) (Q : Nat → Int32 → Sg → Prop) (x11 : Int32) (x12 : Int32) (x16 : Int32) (y0 : Int32) (S : Sg) : Prop := ∃ n9, w_L_isSo_290 k142 Q n9 x11 x12 y0 x16 0 S
theorem k_L_isSo_285 (hT : xT X = tb1) (hl : l.stackTraces = false) (C : Cn X k0 p l R s m meth c cL_isSo RL 23 14 321) (hr : meth.sig.returnType = (some .boolean)) (hnm : meth.name = yL_isSo.name) (htab : (∀ x ∈ c.exceptionTable.toList, False)) {k142 : Int32 → Int32 → Int32 → Int32 → Sg → Prop} (hk142 : ∀ {x11 : Int32} {x12 : Int32} {x15 : Int32} {x16 : Int32} {S : Sg}, k142 x11 x12 x15 x16 S → V X p l e R s m args below meth c 23 (QM X below args s S0 ad0 rvI Qa) S0 ad0 S 142 [(0, Value.ref (enc 0 0)), (1, Value.ref (enc 13 3)), (2, Value.ref (enc 13 4)), (3, Value.ref (enc 13 5)), (4, Value.ref (enc 13 6)), (5, Value.ref (enc 13 7)), (6, Value.ref (enc 13 8)), (7, Value.ref (enc 13 9)), (9, Value.ref (enc 13 11)), (10, Value.ref (enc 13 12)), (11, Value.int x11), (12, Value.int x12), (15, Value.int x15), (16, Value.int x16)] []) {x11 : Int32} {x12 : Int32} {x16 : Int32} {y0 : Int32} {S : Sg} (h : w_L_isSo_285 k142 Qa x11 x12 x16 y0 S) : V X p l e R s m args below meth c 23 (QM X below args s S0 ad0 rvI Qa) S0 ad0 S 285 [(0, Value.ref (enc 0 0)), (1, Value.ref (enc 13 3)), (2, Value.ref (enc 13 4)), (3, Value.ref (enc 13 5)), (4, Value.ref (enc 13 6)), (5, Value.ref (enc 13 7)), (6, Value.ref (enc 13 8)), (7, Value.ref (enc 13 9)), (9, Value.ref (enc 13 11)), (10, Value.ref (enc 13 12)), (11, Value.int x11), (12, Value.int x12), (16, Value.int x16)] [Value.int y0] := by
  refine V_istore (pc := 285) C dL_isSo_285 (by decide) rfl ?_
  refine V_iconst (pc := 287) C (v := 0) dL_isSo_287 rfl ?_
  refine V_istore (pc := 288) C dL_isSo_288 (by decide) rfl ?_
  refine V_sub [2, 3, 4, 5, 6, 7, 8, 9, 10, 11, 12, 13, 1, 14, 0] rfl ?_
  obtain ⟨n9, h⟩ := h
  exact k_L_isSo_290 hT hl C hr hnm htab (fun h => hk142 h) n9 h
def w_L_isSo_284 (k142 : Int32 → Int32 → Int32 → Int32 → Sg → Prop) (Q : Nat → Int32 → Sg → Prop) (x11 : Int32) (x12 : Int32) (x16 : Int32) (S : Sg) : Prop := w_L_isSo_285 k142 Q x11 x12 x16 0 S
theorem k_L_isSo_284 (hT : xT X = tb1) (hl : l.stackTraces = false) (C : Cn X k0 p l R s m meth c cL_isSo RL 23 14 321) (hr : meth.sig.returnType = (some .boolean)) (hnm : meth.name = yL_isSo.name) (htab : (∀ x ∈ c.exceptionTable.toList, False)) {k142 : Int32 → Int32 → Int32 → Int32 → Sg → Prop} (hk142 : ∀ {x11 : Int32} {x12 : Int32} {x15 : Int32} {x16 : Int32} {S : Sg}, k142 x11 x12 x15 x16 S → V X p l e R s m args below meth c 23 (QM X below args s S0 ad0 rvI Qa) S0 ad0 S 142 [(0, Value.ref (enc 0 0)), (1, Value.ref (enc 13 3)), (2, Value.ref (enc 13 4)), (3, Value.ref (enc 13 5)), (4, Value.ref (enc 13 6)), (5, Value.ref (enc 13 7)), (6, Value.ref (enc 13 8)), (7, Value.ref (enc 13 9)), (9, Value.ref (enc 13 11)), (10, Value.ref (enc 13 12)), (11, Value.int x11), (12, Value.int x12), (15, Value.int x15), (16, Value.int x16)] []) {x11 : Int32} {x12 : Int32} {x16 : Int32} {S : Sg} (h : w_L_isSo_284 k142 Qa x11 x12 x16 S) : V X p l e R s m args below meth c 23 (QM X below args s S0 ad0 rvI Qa) S0 ad0 S 284 [(0, Value.ref (enc 0 0)), (1, Value.ref (enc 13 3)), (2, Value.ref (enc 13 4)), (3, Value.ref (enc 13 5)), (4, Value.ref (enc 13 6)), (5, Value.ref (enc 13 7)), (6, Value.ref (enc 13 8)), (7, Value.ref (enc 13 9)), (9, Value.ref (enc 13 11)), (10, Value.ref (enc 13 12)), (11, Value.int x11), (12, Value.int x12), (16, Value.int x16)] [] := by
  refine V_iconst (pc := 284) C (v := 0) dL_isSo_284 rfl ?_
  refine V_sub [0, 1, 2, 3, 4, 5, 6, 7, 8, 9, 10, 11, 12] rfl ?_
  exact k_L_isSo_285 hT hl C hr hnm htab (fun h => hk142 h) h
def w_L_isSo_203 (k142 : Int32 → Int32 → Int32 → Int32 → Sg → Prop) (k162 : Int32 → Int32 → Int32 → Int32 → Int32 → Sg → Prop) (Q : Nat → Int32 → Sg → Prop) (x11 : Int32) (x12 : Int32) (x16 : Int32) (x18 : Int32) (y0 : Int32) (S : Sg) : Prop := k162 x11 x12 x16 y0 (x18 + 1) S
theorem k_L_isSo_203 (hT : xT X = tb1) (hl : l.stackTraces = false) (C : Cn X k0 p l R s m meth c cL_isSo RL 23 14 321) (hr : meth.sig.returnType = (some .boolean)) (hnm : meth.name = yL_isSo.name) (htab : (∀ x ∈ c.exceptionTable.toList, False)) {k142 : Int32 → Int32 → Int32 → Int32 → Sg → Prop} (hk142 : ∀ {x11 : Int32} {x12 : Int32} {x15 : Int32} {x16 : Int32} {S : Sg}, k142 x11 x12 x15 x16 S → V X p l e R s m args below meth c 23 (QM X below args s S0 ad0 rvI Qa) S0 ad0 S 142 [(0, Value.ref (enc 0 0)), (1, Value.ref (enc 13 3)), (2, Value.ref (enc 13 4)), (3, Value.ref (enc 13 5)), (4, Value.ref (enc 13 6)), (5, Value.ref (enc 13 7)), (6, Value.ref (enc 13 8)), (7, Value.ref (enc 13 9)), (9, Value.ref (enc 13 11)), (10, Value.ref (enc 13 12)), (11, Value.int x11), (12, Value.int x12), (15, Value.int x15), (16, Value.int x16)] []) {k162 : Int32 → Int32 → Int32 → Int32 → Int32 → Sg → Prop} (hk162 : ∀ {x11 : Int32} {x12 : Int32} {x16 : Int32} {x17 : Int32} {x18 : Int32} {S : Sg}, k162 x11 x12 x16 x17 x18 S → V X p l e R s m args below meth c 23 (QM X below args s S0 ad0 rvI Qa) S0 ad0 S 162 [(0, Value.ref (enc 0 0)), (1, Value.ref (enc 13 3)), (2, Value.ref (enc 13 4)), (3, Value.ref (enc 13 5)), (4, Value.ref (enc 13 6)), (5, Value.ref (enc 13 7)), (6, Value.ref (enc 13 8)), (7, Value.ref (enc 13 9)), (9, Value.ref (enc 13 11)), (10, Value.ref (enc 13 12)), (11, Value.int x11), (12, Value.int x12), (16, Value.int x16), (17, Value.int x17), (18, Value.int x18)] []) {x11 : Int32} {x12 : Int32} {x16 : Int32} {x18 : Int32} {y0 : Int32} {S : Sg} (h : w_L_isSo_203 k142 k162 Qa x11 x12 x16 x18 y0 S) : V X p l e R s m args below meth c 23 (QM X below args s S0 ad0 rvI Qa) S0 ad0 S 203 [(0, Value.ref (enc 0 0)), (1, Value.ref (enc 13 3)), (2, Value.ref (enc 13 4)), (3, Value.ref (enc 13 5)), (4, Value.ref (enc 13 6)), (5, Value.ref (enc 13 7)), (6, Value.ref (enc 13 8)), (7, Value.ref (enc 13 9)), (9, Value.ref (enc 13 11)), (10, Value.ref (enc 13 12)), (11, Value.int x11), (12, Value.int x12), (16, Value.int x16), (18, Value.int x18)] [Value.int y0] := by
  refine V_istore (pc := 203) C dL_isSo_203 (by decide) rfl ?_
  refine V_iinc (pc := 205) C (a := 14) (v := x18 + 1) dL_isSo_205 rfl rfl (by decide) rfl ?_
  refine V_goto (pc := 208) (tgt := 162) C dL_isSo_208 (by decide) ?_
  refine V_sub [2, 3, 4, 5, 6, 7, 8, 9, 10, 11, 12, 13, 14, 1, 0] rfl ?_
  exact hk162 h
def w_L_isSo_201 (k142 : Int32 → Int32 → Int32 → Int32 → Sg → Prop) (k162 : Int32 → Int32 → Int32 → Int32 → Int32 → Sg → Prop) (Q : Nat → Int32 → Sg → Prop) (x11 : Int32) (x12 : Int32) (x16 : Int32) (x17 : Int32) (x18 : Int32) (S : Sg) : Prop := w_L_isSo_203 k142 k162 Q x11 x12 x16 x18 x17 S
theorem k_L_isSo_201 (hT : xT X = tb1) (hl : l.stackTraces = false) (C : Cn X k0 p l R s m meth c cL_isSo RL 23 14 321) (hr : meth.sig.returnType = (some .boolean)) (hnm : meth.name = yL_isSo.name) (htab : (∀ x ∈ c.exceptionTable.toList, False)) {k142 : Int32 → Int32 → Int32 → Int32 → Sg → Prop} (hk142 : ∀ {x11 : Int32} {x12 : Int32} {x15 : Int32} {x16 : Int32} {S : Sg}, k142 x11 x12 x15 x16 S → V X p l e R s m args below meth c 23 (QM X below args s S0 ad0 rvI Qa) S0 ad0 S 142 [(0, Value.ref (enc 0 0)), (1, Value.ref (enc 13 3)), (2, Value.ref (enc 13 4)), (3, Value.ref (enc 13 5)), (4, Value.ref (enc 13 6)), (5, Value.ref (enc 13 7)), (6, Value.ref (enc 13 8)), (7, Value.ref (enc 13 9)), (9, Value.ref (enc 13 11)), (10, Value.ref (enc 13 12)), (11, Value.int x11), (12, Value.int x12), (15, Value.int x15), (16, Value.int x16)] []) {k162 : Int32 → Int32 → Int32 → Int32 → Int32 → Sg → Prop} (hk162 : ∀ {x11 : Int32} {x12 : Int32} {x16 : Int32} {x17 : Int32} {x18 : Int32} {S : Sg}, k162 x11 x12 x16 x17 x18 S → V X p l e R s m args below meth c 23 (QM X below args s S0 ad0 rvI Qa) S0 ad0 S 162 [(0, Value.ref (enc 0 0)), (1, Value.ref (enc 13 3)), (2, Value.ref (enc 13 4)), (3, Value.ref (enc 13 5)), (4, Value.ref (enc 13 6)), (5, Value.ref (enc 13 7)), (6, Value.ref (enc 13 8)), (7, Value.ref (enc 13 9)), (9, Value.ref (enc 13 11)), (10, Value.ref (enc 13 12)), (11, Value.int x11), (12, Value.int x12), (16, Value.int x16), (17, Value.int x17), (18, Value.int x18)] []) {x11 : Int32} {x12 : Int32} {x16 : Int32} {x17 : Int32} {x18 : Int32} {S : Sg} (h : w_L_isSo_201 k142 k162 Qa x11 x12 x16 x17 x18 S) : V X p l e R s m args below meth c 23 (QM X below args s S0 ad0 rvI Qa) S0 ad0 S 201 [(0, Value.ref (enc 0 0)), (1, Value.ref (enc 13 3)), (2, Value.ref (enc 13 4)), (3, Value.ref (enc 13 5)), (4, Value.ref (enc 13 6)), (5, Value.ref (enc 13 7)), (6, Value.ref (enc 13 8)), (7, Value.ref (enc 13 9)), (9, Value.ref (enc 13 11)), (10, Value.ref (enc 13 12)), (11, Value.int x11), (12, Value.int x12), (16, Value.int x16), (17, Value.int x17), (18, Value.int x18)] [] := by
  refine V_iload (pc := 201) C dL_isSo_201 13 rfl ?_
  refine V_sub [0, 1, 2, 3, 4, 5, 6, 7, 8, 9, 10, 11, 12, 14] rfl ?_
  exact k_L_isSo_203 hT hl C hr hnm htab (fun h => hk142 h) (fun h => hk162 h) h
def w_L_isSo_162 (k142 : Int32 → Int32 → Int32 → Int32 → Sg → Prop) (Q : Nat → Int32 → Sg → Prop) : Nat → Int32 → Int32 → Int32 → Int32 → Int32 → Sg → Prop
  | 0, _, _, _, _, _, _ => False
  | n + 1, x11, x12, x16, x17, x18, S => (vp_in 5 8 ∧ (((S.1 112 (nt 5)) ≤ x18 → (w_X7_ofHall x16 0 S (fun k100 v99 S98 => (k100 = 0 → (vp_in x16 7 ∧ (vp_in x16 7 ∧ ((v99 = (((S98.1 103 (nt x16)) - (S98.1 103 (nt x16)) / 8 * 8) * ((S98.1 103 (nt x16)) / 8)) → (w_X7_ofHall x16 1 S98 (fun k103 v102 S101 => (k103 = 0 → (vp_in (2 + x16) 7 ∧ ((v102 = (S101.1 103 (nt (2 + x16))) → (w_X7_ofHall x16 2 S101 (fun k106 v105 S104 => (k106 = 0 → (vp_in (4 + x16) 7 ∧ ((v105 = (S104.1 103 (nt (4 + x16))) → (w_X7_ofHall x16 3 S104 (fun k109 v108 S107 => (k109 = 0 → ((v108 = x17 → w_L_isSo_285 k142 Q x11 x12 x16 1 S107) ∧ (¬ v108 = x17 → w_L_isSo_284 k142 Q x11 x12 x16 S107))) ∧ (¬ k109 = 0 → Q k109 0 S107)))) ∧ (¬ v105 = (S104.1 103 (nt (4 + x16))) → w_L_isSo_284 k142 Q x11 x12 x16 S104)))) ∧ (¬ k106 = 0 → Q k106 0 S104)))) ∧ (¬ v102 = (S101.1 103 (nt (2 + x16))) → w_L_isSo_284 k142 Q x11 x12 x16 S101)))) ∧ (¬ k103 = 0 → Q k103 0 S101)))) ∧ (¬ v99 = (((S98.1 103 (nt x16)) - (S98.1 103 (nt x16)) / 8 * 8) * ((S98.1 103 (nt x16)) / 8)) → w_L_isSo_284 k142 Q x11 x12 x16 S98))))) ∧ (¬ k100 = 0 → Q k100 0 S98)))) ∧ (¬ (S.1 112 (nt 5)) ≤ x18 → (w_L_state x18 S (fun k112 v111 S110 => (k112 = 0 → ((v111 = 1 → (vp_in x18 11 ∧ (((((S110.1 106 (nt x18)) / 4) - ((S110.1 106 (nt x18)) / 4) / 4 * 4) = x16 → w_L_isSo_203 k142 (fun x11 x12 x16 x17 x18 S => w_L_isSo_162 k142 Q n x11 x12 x16 x17 x18 S) Q x11 x12 x16 x18 x18 S110) ∧ (¬ (((S110.1 106 (nt x18)) / 4) - ((S110.1 106 (nt x18)) / 4) / 4 * 4) = x16 → w_L_isSo_201 k142 (fun x11 x12 x16 x17 x18 S => w_L_isSo_162 k142 Q n x11 x12 x16 x17 x18 S) Q x11 x12 x16 x17 x18 S110)))) ∧ (¬ v111 = 1 → w_L_isSo_201 k142 (fun x11 x12 x16 x17 x18 S => w_L_isSo_162 k142 Q n x11 x12 x16 x17 x18 S) Q x11 x12 x16 x17 x18 S110))) ∧ (¬ k112 = 0 → Q k112 0 S110))))))
theorem k_L_isSo_162 (hT : xT X = tb1) (hl : l.stackTraces = false) (C : Cn X k0 p l R s m meth c cL_isSo RL 23 14 321) (hr : meth.sig.returnType = (some .boolean)) (hnm : meth.name = yL_isSo.name) (htab : (∀ x ∈ c.exceptionTable.toList, False)) {k142 : Int32 → Int32 → Int32 → Int32 → Sg → Prop} (hk142 : ∀ {x11 : Int32} {x12 : Int32} {x15 : Int32} {x16 : Int32} {S : Sg}, k142 x11 x12 x15 x16 S → V X p l e R s m args below meth c 23 (QM X below args s S0 ad0 rvI Qa) S0 ad0 S 142 [(0, Value.ref (enc 0 0)), (1, Value.ref (enc 13 3)), (2, Value.ref (enc 13 4)), (3, Value.ref (enc 13 5)), (4, Value.ref (enc 13 6)), (5, Value.ref (enc 13 7)), (6, Value.ref (enc 13 8)), (7, Value.ref (enc 13 9)), (9, Value.ref (enc 13 11)), (10, Value.ref (enc 13 12)), (11, Value.int x11), (12, Value.int x12), (15, Value.int x15), (16, Value.int x16)] []) : ∀ n {x11 : Int32} {x12 : Int32} {x16 : Int32} {x17 : Int32} {x18 : Int32} {S : Sg}, w_L_isSo_162 k142 Qa n x11 x12 x16 x17 x18 S → V X p l e R s m args below meth c 23 (QM X below args s S0 ad0 rvI Qa) S0 ad0 S 162 [(0, Value.ref (enc 0 0)), (1, Value.ref (enc 13 3)), (2, Value.ref (enc 13 4)), (3, Value.ref (enc 13 5)), (4, Value.ref (enc 13 6)), (5, Value.ref (enc 13 7)), (6, Value.ref (enc 13 8)), (7, Value.ref (enc 13 9)), (9, Value.ref (enc 13 11)), (10, Value.ref (enc 13 12)), (11, Value.int x11), (12, Value.int x12), (16, Value.int x16), (17, Value.int x17), (18, Value.int x18)] [] := by
  intro n
  induction n with
  | zero => intro x11 x12 x16 x17 x18 S h; exact h.elim
  | succ n ih =>
    intro x11 x12 x16 x17 x18 S h
    refine V_iload (pc := 162) C dL_isSo_162 14 rfl ?_
    refine V_aload (pc := 164) C dL_isSo_164 9 rfl ?_
    refine V_iconst (pc := 166) C (v := 5) dL_isSo_166 rfl ?_
    refine V_mld (pc := 167) C hT tb1_arr (n := 8) (c9 := 112) rfl rfl rfl h dL_isSo_167 (fun h => ?_)
    refine V_icmp_ge (pc := 168) (tgt := 211) C dL_isSo_168 (by decide) h (fun h => ?_) (fun h => ?_)
    · refine V_aload_n (pc := 211) C dL_isSo_211 rfl 0 rfl ?_
      refine V_iload (pc := 212) C dL_isSo_212 12 rfl ?_
      refine V_iconst (pc := 214) C (v := 0) dL_isSo_214 rfl ?_
      refine V_callV (pc := 215) C (ct_X7_ofHall hT hl h) g797 g798 g799 g800 g33 ⟨by decide, by decide, pl_X7_ofHall⟩ (enc_ne63 (by decide)) (ct_obj hT rfl (by decide)) rfl ⟨by decide, by decide⟩ (rest := []) rfl (le8 rfl) dL_isSo_215 (fun v99 S98 h => ?_) (fun k9 S9 hk h => VX_out C htab hk (h.2 (by omega)))
      replace h := h.1 rfl
      refine V_st (st' := [Value.int v99]) rfl ?_
      refine V_aload_n (pc := 218) C dL_isSo_218 rfl 1 rfl ?_
      refine V_iload (pc := 219) C dL_isSo_219 12 rfl ?_
      refine V_mld (pc := 221) C hT tb1_arr (n := 7) (c9 := 103) rfl rfl rfl h dL_isSo_221 (fun h => ?_)
      refine V_bipush (pc := 222) C (v := 8) dL_isSo_222 rfl ?_
      refine V_irem (pc := 224) C dL_isSo_224 (by decide) ?_
      refine V_aload_n (pc := 225) C dL_isSo_225 rfl 1 rfl ?_
      refine V_iload (pc := 226) C dL_isSo_226 12 rfl ?_
      refine V_mld (pc := 228) C hT tb1_arr (n := 7) (c9 := 103) rfl rfl rfl h dL_isSo_228 (fun h => ?_)
      refine V_bipush (pc := 229) C (v := 8) dL_isSo_229 rfl ?_
      refine V_idiv (pc := 231) C dL_isSo_231 (by decide) ?_
      refine V_imul (pc := 232) C dL_isSo_232 ?_
      refine V_icmp_ne (pc := 233) (tgt := 284) C dL_isSo_233 (by decide) h (fun h => ?_) (fun h => ?_)
      · refine V_sub [0, 1, 2, 3, 4, 5, 6, 7, 8, 9, 10, 11, 12] rfl ?_
        exact k_L_isSo_284 hT hl C hr hnm htab (fun h => hk142 h) h
      · refine V_aload_n (pc := 236) C dL_isSo_236 rfl 0 rfl ?_
        refine V_iload (pc := 237) C dL_isSo_237 12 rfl ?_
        refine V_iconst (pc := 239) C (v := 1) dL_isSo_239 rfl ?_
        refine V_callV (pc := 240) C (ct_X7_ofHall hT hl h) g797 g798 g799 g800 g33 ⟨by decide, by decide, pl_X7_ofHall⟩ (enc_ne63 (by decide)) (ct_obj hT rfl (by decide)) rfl ⟨by decide, by decide⟩ (rest := []) rfl (le8 rfl) dL_isSo_240 (fun v102 S101 h => ?_) (fun k9 S9 hk h => VX_out C htab hk (h.2 (by omega)))
        replace h := h.1 rfl
        refine V_st (st' := [Value.int v102]) rfl ?_
        refine V_aload_n (pc := 243) C dL_isSo_243 rfl 1 rfl ?_
        refine V_iconst (pc := 244) C (v := 2) dL_isSo_244 rfl ?_
        refine V_iload (pc := 245) C dL_isSo_245 12 rfl ?_
        refine V_iadd (pc := 247) C dL_isSo_247 ?_
        refine V_mld (pc := 248) C hT tb1_arr (n := 7) (c9 := 103) rfl rfl rfl h dL_isSo_248 (fun h => ?_)
        refine V_icmp_ne (pc := 249) (tgt := 284) C dL_isSo_249 (by decide) h (fun h => ?_) (fun h => ?_)
        · refine V_sub [0, 1, 2, 3, 4, 5, 6, 7, 8, 9, 10, 11, 12] rfl ?_
          exact k_L_isSo_284 hT hl C hr hnm htab (fun h => hk142 h) h
        · refine V_aload_n (pc := 252) C dL_isSo_252 rfl 0 rfl ?_
          refine V_iload (pc := 253) C dL_isSo_253 12 rfl ?_
          refine V_iconst (pc := 255) C (v := 2) dL_isSo_255 rfl ?_
          refine V_callV (pc := 256) C (ct_X7_ofHall hT hl h) g797 g798 g799 g800 g33 ⟨by decide, by decide, pl_X7_ofHall⟩ (enc_ne63 (by decide)) (ct_obj hT rfl (by decide)) rfl ⟨by decide, by decide⟩ (rest := []) rfl (le8 rfl) dL_isSo_256 (fun v105 S104 h => ?_) (fun k9 S9 hk h => VX_out C htab hk (h.2 (by omega)))
          replace h := h.1 rfl
          refine V_st (st' := [Value.int v105]) rfl ?_
          refine V_aload_n (pc := 259) C dL_isSo_259 rfl 1 rfl ?_
          refine V_iconst (pc := 260) C (v := 4) dL_isSo_260 rfl ?_
          refine V_iload (pc := 261) C dL_isSo_261 12 rfl ?_
          refine V_iadd (pc := 263) C dL_isSo_263 ?_
          refine V_mld (pc := 264) C hT tb1_arr (n := 7) (c9 := 103) rfl rfl rfl h dL_isSo_264 (fun h => ?_)
          refine V_icmp_ne (pc := 265) (tgt := 284) C dL_isSo_265 (by decide) h (fun h => ?_) (fun h => ?_)
          · refine V_sub [0, 1, 2, 3, 4, 5, 6, 7, 8, 9, 10, 11, 12] rfl ?_
            exact k_L_isSo_284 hT hl C hr hnm htab (fun h => hk142 h) h
          · refine V_aload_n (pc := 268) C dL_isSo_268 rfl 0 rfl ?_
            refine V_iload (pc := 269) C dL_isSo_269 12 rfl ?_
            refine V_iconst (pc := 271) C (v := 3) dL_isSo_271 rfl ?_
            refine V_callV (pc := 272) C (ct_X7_ofHall hT hl h) g797 g798 g799 g800 g33 ⟨by decide, by decide, pl_X7_ofHall⟩ (enc_ne63 (by decide)) (ct_obj hT rfl (by decide)) rfl ⟨by decide, by decide⟩ (rest := []) rfl (le8 rfl) dL_isSo_272 (fun v108 S107 h => ?_) (fun k9 S9 hk h => VX_out C htab hk (h.2 (by omega)))
            replace h := h.1 rfl
            refine V_st (st' := [Value.int v108]) rfl ?_
            refine V_iload (pc := 275) C dL_isSo_275 13 rfl ?_
            refine V_icmp_ne (pc := 277) (tgt := 284) C dL_isSo_277 (by decide) h (fun h => ?_) (fun h => ?_)
            · refine V_sub [0, 1, 2, 3, 4, 5, 6, 7, 8, 9, 10, 11, 12] rfl ?_
              exact k_L_isSo_284 hT hl C hr hnm htab (fun h => hk142 h) h
            · refine V_iconst (pc := 280) C (v := 1) dL_isSo_280 rfl ?_
              refine V_goto (pc := 281) (tgt := 285) C dL_isSo_281 (by decide) ?_
              refine V_sub [0, 1, 2, 3, 4, 5, 6, 7, 8, 9, 10, 11, 12] rfl ?_
              exact k_L_isSo_285 hT hl C hr hnm htab (fun h => hk142 h) h
    · refine V_aload (pc := 171) C dL_isSo_171 4 rfl ?_
      refine V_iload (pc := 173) C dL_isSo_173 14 rfl ?_
      refine V_callS (pc := 175) C (ct_L_state hT hl h) g794 g795 g796 g32 ⟨by decide, by decide, pl_L_state⟩ ⟨by decide, by decide⟩ (rest := []) rfl (le8 rfl) dL_isSo_175 (fun v111 S110 h => ?_) (fun k9 S9 hk h => VX_out C htab hk (h.2 (by omega)))
      replace h := h.1 rfl
      refine V_st (st' := [Value.int v111]) rfl ?_
      refine V_iconst (pc := 178) C (v := 1) dL_isSo_178 rfl ?_
      refine V_icmp_ne (pc := 179) (tgt := 201) C dL_isSo_179 (by decide) h (fun h => ?_) (fun h => ?_)
      · refine V_sub [0, 1, 2, 3, 4, 5, 6, 7, 8, 9, 10, 11, 12, 13, 14] rfl ?_
        exact k_L_isSo_201 hT hl C hr hnm htab (fun h => hk142 h) (fun h => ih h) h
      · refine V_aload (pc := 182) C dL_isSo_182 4 rfl ?_
        refine V_iload (pc := 184) C dL_isSo_184 14 rfl ?_
        refine V_mld (pc := 186) C hT tb1_arr (n := 11) (c9 := 106) rfl rfl rfl h dL_isSo_186 (fun h => ?_)
        refine V_iconst (pc := 187) C (v := 4) dL_isSo_187 rfl ?_
        refine V_idiv (pc := 188) C dL_isSo_188 (by decide) ?_
        refine V_iconst (pc := 189) C (v := 4) dL_isSo_189 rfl ?_
        refine V_irem (pc := 190) C dL_isSo_190 (by decide) ?_
        refine V_iload (pc := 191) C dL_isSo_191 12 rfl ?_
        refine V_icmp_ne (pc := 193) (tgt := 201) C dL_isSo_193 (by decide) h (fun h => ?_) (fun h => ?_)
        · refine V_sub [0, 1, 2, 3, 4, 5, 6, 7, 8, 9, 10, 11, 12, 13, 14] rfl ?_
          exact k_L_isSo_201 hT hl C hr hnm htab (fun h => hk142 h) (fun h => ih h) h
        · refine V_iload (pc := 196) C dL_isSo_196 14 rfl ?_
          refine V_goto (pc := 198) (tgt := 203) C dL_isSo_198 (by decide) ?_
          refine V_sub [0, 1, 2, 3, 4, 5, 6, 7, 8, 9, 10, 11, 12, 14] rfl ?_
          exact k_L_isSo_203 hT hl C hr hnm htab (fun h => hk142 h) (fun h => ih h) h
def w_L_isSo_142  (Q : Nat → Int32 → Sg → Prop) : Nat → Int32 → Int32 → Int32 → Int32 → Sg → Prop
  | 0, _, _, _, _, _ => False
  | n + 1, x11, x12, x15, x16, S => (vp_in 2 8 ∧ (((S.1 112 (nt 2)) ≤ x16 → w_L_isSo_371  Q x11 x12 x15 S) ∧ (¬ (S.1 112 (nt 2)) ≤ x16 → ((x15 = 0 → w_L_isSo_371  Q x11 x12 x15 S) ∧ (¬ x15 = 0 → ∃ n9, w_L_isSo_162 (fun x11 x12 x15 x16 S => w_L_isSo_142  Q n x11 x12 x15 x16 S) Q n9 x11 x12 x16 (-1) 0 S)))))
theorem k_L_isSo_142 (hT : xT X = tb1) (hl : l.stackTraces = false) (C : Cn X k0 p l R s m meth c cL_isSo RL 23 14 321) (hr : meth.sig.returnType = (some .boolean)) (hnm : meth.name = yL_isSo.name) (htab : (∀ x ∈ c.exceptionTable.toList, False))  : ∀ n {x11 : Int32} {x12 : Int32} {x15 : Int32} {x16 : Int32} {S : Sg}, w_L_isSo_142  Qa n x11 x12 x15 x16 S → V X p l e R s m args below meth c 23 (QM X below args s S0 ad0 rvI Qa) S0 ad0 S 142 [(0, Value.ref (enc 0 0)), (1, Value.ref (enc 13 3)), (2, Value.ref (enc 13 4)), (3, Value.ref (enc 13 5)), (4, Value.ref (enc 13 6)), (5, Value.ref (enc 13 7)), (6, Value.ref (enc 13 8)), (7, Value.ref (enc 13 9)), (9, Value.ref (enc 13 11)), (10, Value.ref (enc 13 12)), (11, Value.int x11), (12, Value.int x12), (15, Value.int x15), (16, Value.int x16)] [] := by
  intro n
  induction n with
  | zero => intro x11 x12 x15 x16 S h; exact h.elim
  | succ n ih =>
    intro x11 x12 x15 x16 S h
    refine V_iload (pc := 142) C dL_isSo_142 13 rfl ?_
    refine V_aload (pc := 144) C dL_isSo_144 9 rfl ?_
    refine V_iconst (pc := 146) C (v := 2) dL_isSo_146 rfl ?_
    refine V_mld (pc := 147) C hT tb1_arr (n := 8) (c9 := 112) rfl rfl rfl h dL_isSo_147 (fun h => ?_)
    refine V_icmp_ge (pc := 148) (tgt := 371) C dL_isSo_148 (by decide) h (fun h => ?_) (fun h => ?_)
    · refine V_sub [0, 1, 2, 4, 5, 6, 7, 8, 9, 10, 11, 12] rfl ?_
      exact k_L_isSo_371 hT hl C hr hnm htab  h
    · refine V_iload (pc := 151) C dL_isSo_151 12 rfl ?_
      refine V_if_eq (pc := 153) (tgt := 371) C dL_isSo_153 (by decide) h (fun h => ?_) (fun h => ?_)
      · refine V_sub [0, 1, 2, 4, 5, 6, 7, 8, 9, 10, 11, 12] rfl ?_
        exact k_L_isSo_371 hT hl C hr hnm htab  h
      · refine V_iconst (pc := 156) C (v := (-1)) dL_isSo_156 rfl ?_
        refine V_istore (pc := 157) C dL_isSo_157 (by decide) rfl ?_
        refine V_iconst (pc := 159) C (v := 0) dL_isSo_159 rfl ?_
        refine V_istore (pc := 160) C dL_isSo_160 (by decide) rfl ?_
        refine V_sub [2, 3, 4, 5, 6, 7, 8, 9, 10, 11, 12, 13, 15, 1, 0] rfl ?_
        obtain ⟨n9, h⟩ := h
        exact k_L_isSo_162 hT hl C hr hnm htab (fun h => ih h) n9 h
def w_L_isSo_137  (Q : Nat → Int32 → Sg → Prop) (x11 : Int32) (x12 : Int32) (y0 : Int32) (S : Sg) : Prop := ∃ n9, w_L_isSo_142  Q n9 x11 x12 y0 0 S
theorem k_L_isSo_137 (hT : xT X = tb1) (hl : l.stackTraces = false) (C : Cn X k0 p l R s m meth c cL_isSo RL 23 14 321) (hr : meth.sig.returnType = (some .boolean)) (hnm : meth.name = yL_isSo.name) (htab : (∀ x ∈ c.exceptionTable.toList, False))  {x11 : Int32} {x12 : Int32} {y0 : Int32} {S : Sg} (h : w_L_isSo_137  Qa x11 x12 y0 S) : V X p l e R s m args below meth c 23 (QM X below args s S0 ad0 rvI Qa) S0 ad0 S 137 [(0, Value.ref (enc 0 0)), (1, Value.ref (enc 13 3)), (2, Value.ref (enc 13 4)), (3, Value.ref (enc 13 5)), (4, Value.ref (enc 13 6)), (5, Value.ref (enc 13 7)), (6, Value.ref (enc 13 8)), (7, Value.ref (enc 13 9)), (9, Value.ref (enc 13 11)), (10, Value.ref (enc 13 12)), (11, Value.int x11), (12, Value.int x12)] [Value.int y0] := by
  refine V_istore (pc := 137) C dL_isSo_137 (by decide) rfl ?_
  refine V_iconst (pc := 139) C (v := 0) dL_isSo_139 rfl ?_
  refine V_istore (pc := 140) C dL_isSo_140 (by decide) rfl ?_
  refine V_sub [2, 3, 4, 5, 6, 7, 8, 9, 10, 11, 12, 13, 1, 0] rfl ?_
  obtain ⟨n9, h⟩ := h
  exact k_L_isSo_142 hT hl C hr hnm htab  n9 h
def w_L_isSo_136  (Q : Nat → Int32 → Sg → Prop) (x11 : Int32) (x12 : Int32) (S : Sg) : Prop := w_L_isSo_137  Q x11 x12 0 S
theorem k_L_isSo_136 (hT : xT X = tb1) (hl : l.stackTraces = false) (C : Cn X k0 p l R s m meth c cL_isSo RL 23 14 321) (hr : meth.sig.returnType = (some .boolean)) (hnm : meth.name = yL_isSo.name) (htab : (∀ x ∈ c.exceptionTable.toList, False))  {x11 : Int32} {x12 : Int32} {S : Sg} (h : w_L_isSo_136  Qa x11 x12 S) : V X p l e R s m args below meth c 23 (QM X below args s S0 ad0 rvI Qa) S0 ad0 S 136 [(0, Value.ref (enc 0 0)), (1, Value.ref (enc 13 3)), (2, Value.ref (enc 13 4)), (3, Value.ref (enc 13 5)), (4, Value.ref (enc 13 6)), (5, Value.ref (enc 13 7)), (6, Value.ref (enc 13 8)), (7, Value.ref (enc 13 9)), (9, Value.ref (enc 13 11)), (10, Value.ref (enc 13 12)), (11, Value.int x11), (12, Value.int x12)] [] := by
  refine V_iconst (pc := 136) C (v := 0) dL_isSo_136 rfl ?_
  refine V_sub [0, 1, 2, 3, 4, 5, 6, 7, 8, 9, 10, 11] rfl ?_
  exact k_L_isSo_137 hT hl C hr hnm htab  h
def w_L_isSo_66 (k38 : Int32 → Int32 → Int32 → Int32 → Int32 → Sg → Prop) (Q : Nat → Int32 → Sg → Prop) (x11 : Int32) (x12 : Int32) (x13 : Int32) (x15 : Int32) (y0 : Int32) (y1 : Int32) (S : Sg) : Prop := (∀ v113, v113 = y1 + y0 → k38 x11 x12 x13 v113 (x15 + 1) S)
theorem k_L_isSo_66 (hT : xT X = tb1) (hl : l.stackTraces = false) (C : Cn X k0 p l R s m meth c cL_isSo RL 23 14 321) (hr : meth.sig.returnType = (some .boolean)) (hnm : meth.name = yL_isSo.name) (htab : (∀ x ∈ c.exceptionTable.toList, False)) {k38 : Int32 → Int32 → Int32 → Int32 → Int32 → Sg → Prop} (hk38 : ∀ {x11 : Int32} {x12 : Int32} {x13 : Int32} {x14 : Int32} {x15 : Int32} {S : Sg}, k38 x11 x12 x13 x14 x15 S → V X p l e R s m args below meth c 23 (QM X below args s S0 ad0 rvI Qa) S0 ad0 S 38 [(0, Value.ref (enc 0 0)), (1, Value.ref (enc 13 3)), (2, Value.ref (enc 13 4)), (3, Value.ref (enc 13 5)), (4, Value.ref (enc 13 6)), (5, Value.ref (enc 13 7)), (6, Value.ref (enc 13 8)), (7, Value.ref (enc 13 9)), (8, Value.ref (enc 13 10)), (9, Value.ref (enc 13 11)), (10, Value.ref (enc 13 12)), (11, Value.int x11), (12, Value.int x12), (13, Value.int x13), (14, Value.int x14), (15, Value.int x15)] []) {x11 : Int32} {x12 : Int32} {x13 : Int32} {x15 : Int32} {y0 : Int32} {y1 : Int32} {S : Sg} (h : w_L_isSo_66 k38 Qa x11 x12 x13 x15 y0 y1 S) : V X p l e R s m args below meth c 23 (QM X below args s S0 ad0 rvI Qa) S0 ad0 S 66 [(0, Value.ref (enc 0 0)), (1, Value.ref (enc 13 3)), (2, Value.ref (enc 13 4)), (3, Value.ref (enc 13 5)), (4, Value.ref (enc 13 6)), (5, Value.ref (enc 13 7)), (6, Value.ref (enc 13 8)), (7, Value.ref (enc 13 9)), (8, Value.ref (enc 13 10)), (9, Value.ref (enc 13 11)), (10, Value.ref (enc 13 12)), (11, Value.int x11), (12, Value.int x12), (13, Value.int x13), (15, Value.int x15)] [Value.int y0, Value.int y1] := by
  refine V_iadd (pc := 66) C dL_isSo_66 ?_
  refine V_nI fun v113 e9 => ?_
  replace h := h v113 e9; clear e9
  refine V_istore (pc := 67) C dL_isSo_67 (by decide) rfl ?_
  refine V_iinc (pc := 69) C (a := 15) (v := x15 + 1) dL_isSo_69 rfl rfl (by decide) rfl ?_
  refine V_goto (pc := 72) (tgt := 38) C dL_isSo_72 (by decide) ?_
  refine V_sub [2, 3, 4, 5, 6, 7, 8, 9, 10, 11, 12, 13, 14, 15, 1, 0] rfl ?_
  exact hk38 h
def w_L_isSo_38  (Q : Nat → Int32 → Sg → Prop) : Nat → Int32 → Int32 → Int32 → Int32 → Int32 → Sg → Prop
  | 0, _, _, _, _, _, _ => False
  | n + 1, x11, x12, x13, x14, x15, S => (vp_in 6 8 ∧ (((S.1 112 (nt 6)) ≤ x15 → (w_X7_all 0 S (fun k116 v115 S114 => (k116 = 0 → (vp_in 0 8 ∧ ((v115 = (S114.1 112 (nt 0)) → (w_X7_all 1 S114 (fun k119 v118 S117 => (k119 = 0 → (vp_in 5 8 ∧ ((v118 = (S117.1 112 (nt 5)) → (w_X7_all 2 S117 (fun k122 v121 S120 => (k122 = 0 → (vp_in 7 8 ∧ ((v121 = (S120.1 112 (nt 7)) → (w_X7_all 3 S120 (fun k125 v124 S123 => (k125 = 0 → ((v124 = x14 → (w_X7_all 4 S123 (fun k128 v127 S126 => (k128 = 0 → ((v127 = x13 → w_L_isSo_137  Q x11 x12 1 S126) ∧ (¬ v127 = x13 → w_L_isSo_136  Q x11 x12 S126))) ∧ (¬ k128 = 0 → Q k128 0 S126)))) ∧ (¬ v124 = x14 → w_L_isSo_136  Q x11 x12 S123))) ∧ (¬ k125 = 0 → Q k125 0 S123)))) ∧ (¬ v121 = (S120.1 112 (nt 7)) → w_L_isSo_136  Q x11 x12 S120)))) ∧ (¬ k122 = 0 → Q k122 0 S120)))) ∧ (¬ v118 = (S117.1 112 (nt 5)) → w_L_isSo_136  Q x11 x12 S117)))) ∧ (¬ k119 = 0 → Q k119 0 S117)))) ∧ (¬ v115 = (S114.1 112 (nt 0)) → w_L_isSo_136  Q x11 x12 S114)))) ∧ (¬ k116 = 0 → Q k116 0 S114)))) ∧ (¬ (S.1 112 (nt 6)) ≤ x15 → (vp_in x15 48 ∧ ((128 ≤ (S.1 110 (nt x15)) → w_L_isSo_66 (fun x11 x12 x13 x14 x15 S => w_L_isSo_38  Q n x11 x12 x13 x14 x15 S) Q x11 x12 x13 x15 0 x14 S) ∧ (¬ 128 ≤ (S.1 110 (nt x15)) → w_L_isSo_66 (fun x11 x12 x13 x14 x15 S => w_L_isSo_38  Q n x11 x12 x13 x14 x15 S) Q x11 x12 x13 x15 1 x14 S))))))
theorem k_L_isSo_38 (hT : xT X = tb1) (hl : l.stackTraces = false) (C : Cn X k0 p l R s m meth c cL_isSo RL 23 14 321) (hr : meth.sig.returnType = (some .boolean)) (hnm : meth.name = yL_isSo.name) (htab : (∀ x ∈ c.exceptionTable.toList, False))  : ∀ n {x11 : Int32} {x12 : Int32} {x13 : Int32} {x14 : Int32} {x15 : Int32} {S : Sg}, w_L_isSo_38  Qa n x11 x12 x13 x14 x15 S → V X p l e R s m args below meth c 23 (QM X below args s S0 ad0 rvI Qa) S0 ad0 S 38 [(0, Value.ref (enc 0 0)), (1, Value.ref (enc 13 3)), (2, Value.ref (enc 13 4)), (3, Value.ref (enc 13 5)), (4, Value.ref (enc 13 6)), (5, Value.ref (enc 13 7)), (6, Value.ref (enc 13 8)), (7, Value.ref (enc 13 9)), (8, Value.ref (enc 13 10)), (9, Value.ref (enc 13 11)), (10, Value.ref (enc 13 12)), (11, Value.int x11), (12, Value.int x12), (13, Value.int x13), (14, Value.int x14), (15, Value.int x15)] [] := by
  intro n
  induction n with
  | zero => intro x11 x12 x13 x14 x15 S h; exact h.elim
  | succ n ih =>
    intro x11 x12 x13 x14 x15 S h
    refine V_iload (pc := 38) C dL_isSo_38 15 rfl ?_
    refine V_aload (pc := 40) C dL_isSo_40 10 rfl ?_
    refine V_bipush (pc := 42) C (v := 6) dL_isSo_42 rfl ?_
    refine V_mld (pc := 44) C hT tb1_arr (n := 8) (c9 := 112) rfl rfl rfl h dL_isSo_44 (fun h => ?_)
    refine V_icmp_ge (pc := 45) (tgt := 75) C dL_isSo_45 (by decide) h (fun h => ?_) (fun h => ?_)
    · refine V_aload_n (pc := 75) C dL_isSo_75 rfl 0 rfl ?_
      refine V_iconst (pc := 76) C (v := 0) dL_isSo_76 rfl ?_
      refine V_callV (pc := 77) C (ct_X7_all hT hl h) g785 g786 g787 g788 g33 ⟨by decide, by decide, pl_X7_all⟩ (enc_ne63 (by decide)) (ct_obj hT rfl (by decide)) rfl ⟨by decide, by decide⟩ (rest := []) rfl (le8 rfl) dL_isSo_77 (fun v115 S114 h => ?_) (fun k9 S9 hk h => VX_out C htab hk (h.2 (by omega)))
      replace h := h.1 rfl
      refine V_st (st' := [Value.int v115]) rfl ?_
      refine V_aload (pc := 80) C dL_isSo_80 10 rfl ?_
      refine V_iconst (pc := 82) C (v := 0) dL_isSo_82 rfl ?_
      refine V_mld (pc := 83) C hT tb1_arr (n := 8) (c9 := 112) rfl rfl rfl h dL_isSo_83 (fun h => ?_)
      refine V_icmp_ne (pc := 84) (tgt := 136) C dL_isSo_84 (by decide) h (fun h => ?_) (fun h => ?_)
      · refine V_sub [0, 1, 2, 3, 4, 5, 6, 7, 9, 10, 11, 12] rfl ?_
        exact k_L_isSo_136 hT hl C hr hnm htab  h
      · refine V_aload_n (pc := 87) C dL_isSo_87 rfl 0 rfl ?_
        refine V_iconst (pc := 88) C (v := 1) dL_isSo_88 rfl ?_
        refine V_callV (pc := 89) C (ct_X7_all hT hl h) g785 g786 g787 g788 g33 ⟨by decide, by decide, pl_X7_all⟩ (enc_ne63 (by decide)) (ct_obj hT rfl (by decide)) rfl ⟨by decide, by decide⟩ (rest := []) rfl (le8 rfl) dL_isSo_89 (fun v118 S117 h => ?_) (fun k9 S9 hk h => VX_out C htab hk (h.2 (by omega)))
        replace h := h.1 rfl
        refine V_st (st' := [Value.int v118]) rfl ?_
        refine V_aload (pc := 92) C dL_isSo_92 10 rfl ?_
        refine V_iconst (pc := 94) C (v := 5) dL_isSo_94 rfl ?_
        refine V_mld (pc := 95) C hT tb1_arr (n := 8) (c9 := 112) rfl rfl rfl h dL_isSo_95 (fun h => ?_)
        refine V_icmp_ne (pc := 96) (tgt := 136) C dL_isSo_96 (by decide) h (fun h => ?_) (fun h => ?_)
        · refine V_sub [0, 1, 2, 3, 4, 5, 6, 7, 9, 10, 11, 12] rfl ?_
          exact k_L_isSo_136 hT hl C hr hnm htab  h
        · refine V_aload_n (pc := 99) C dL_isSo_99 rfl 0 rfl ?_
          refine V_iconst (pc := 100) C (v := 2) dL_isSo_100 rfl ?_
          refine V_callV (pc := 101) C (ct_X7_all hT hl h) g785 g786 g787 g788 g33 ⟨by decide, by decide, pl_X7_all⟩ (enc_ne63 (by decide)) (ct_obj hT rfl (by decide)) rfl ⟨by decide, by decide⟩ (rest := []) rfl (le8 rfl) dL_isSo_101 (fun v121 S120 h => ?_) (fun k9 S9 hk h => VX_out C htab hk (h.2 (by omega)))
          replace h := h.1 rfl
          refine V_st (st' := [Value.int v121]) rfl ?_
          refine V_aload (pc := 104) C dL_isSo_104 10 rfl ?_
          refine V_bipush (pc := 106) C (v := 7) dL_isSo_106 rfl ?_
          refine V_mld (pc := 108) C hT tb1_arr (n := 8) (c9 := 112) rfl rfl rfl h dL_isSo_108 (fun h => ?_)
          refine V_icmp_ne (pc := 109) (tgt := 136) C dL_isSo_109 (by decide) h (fun h => ?_) (fun h => ?_)
          · refine V_sub [0, 1, 2, 3, 4, 5, 6, 7, 9, 10, 11, 12] rfl ?_
            exact k_L_isSo_136 hT hl C hr hnm htab  h
          · refine V_aload_n (pc := 112) C dL_isSo_112 rfl 0 rfl ?_
            refine V_iconst (pc := 113) C (v := 3) dL_isSo_113 rfl ?_
            refine V_callV (pc := 114) C (ct_X7_all hT hl h) g785 g786 g787 g788 g33 ⟨by decide, by decide, pl_X7_all⟩ (enc_ne63 (by decide)) (ct_obj hT rfl (by decide)) rfl ⟨by decide, by decide⟩ (rest := []) rfl (le8 rfl) dL_isSo_114 (fun v124 S123 h => ?_) (fun k9 S9 hk h => VX_out C htab hk (h.2 (by omega)))
            replace h := h.1 rfl
            refine V_st (st' := [Value.int v124]) rfl ?_
            refine V_iload (pc := 117) C dL_isSo_117 14 rfl ?_
            refine V_icmp_ne (pc := 119) (tgt := 136) C dL_isSo_119 (by decide) h (fun h => ?_) (fun h => ?_)
            · refine V_sub [0, 1, 2, 3, 4, 5, 6, 7, 9, 10, 11, 12] rfl ?_
              exact k_L_isSo_136 hT hl C hr hnm htab  h
            · refine V_aload_n (pc := 122) C dL_isSo_122 rfl 0 rfl ?_
              refine V_iconst (pc := 123) C (v := 4) dL_isSo_123 rfl ?_
              refine V_callV (pc := 124) C (ct_X7_all hT hl h) g785 g786 g787 g788 g33 ⟨by decide, by decide, pl_X7_all⟩ (enc_ne63 (by decide)) (ct_obj hT rfl (by decide)) rfl ⟨by decide, by decide⟩ (rest := []) rfl (le8 rfl) dL_isSo_124 (fun v127 S126 h => ?_) (fun k9 S9 hk h => VX_out C htab hk (h.2 (by omega)))
              replace h := h.1 rfl
              refine V_st (st' := [Value.int v127]) rfl ?_
              refine V_iload (pc := 127) C dL_isSo_127 13 rfl ?_
              refine V_icmp_ne (pc := 129) (tgt := 136) C dL_isSo_129 (by decide) h (fun h => ?_) (fun h => ?_)
              · refine V_sub [0, 1, 2, 3, 4, 5, 6, 7, 9, 10, 11, 12] rfl ?_
                exact k_L_isSo_136 hT hl C hr hnm htab  h
              · refine V_iconst (pc := 132) C (v := 1) dL_isSo_132 rfl ?_
                refine V_goto (pc := 133) (tgt := 137) C dL_isSo_133 (by decide) ?_
                refine V_sub [0, 1, 2, 3, 4, 5, 6, 7, 9, 10, 11, 12] rfl ?_
                exact k_L_isSo_137 hT hl C hr hnm htab  h
    · refine V_iload (pc := 48) C dL_isSo_48 14 rfl ?_
      refine V_aload (pc := 50) C dL_isSo_50 8 rfl ?_
      refine V_iload (pc := 52) C dL_isSo_52 15 rfl ?_
      refine V_mld (pc := 54) C hT tb1_arr (n := 48) (c9 := 110) rfl rfl rfl h dL_isSo_54 (fun h => ?_)
      refine V_sipush (pc := 55) C (v := 128) dL_isSo_55 rfl ?_
      refine V_icmp_ge (pc := 58) (tgt := 65) C dL_isSo_58 (by decide) h (fun h => ?_) (fun h => ?_)
      · refine V_iconst (pc := 65) C (v := 0) dL_isSo_65 rfl ?_
        refine V_sub [0, 1, 2, 3, 4, 5, 6, 7, 8, 9, 10, 11, 12, 13, 15] rfl ?_
        exact k_L_isSo_66 hT hl C hr hnm htab (fun h => ih h) h
      · refine V_iconst (pc := 61) C (v := 1) dL_isSo_61 rfl ?_
        refine V_goto (pc := 62) (tgt := 66) C dL_isSo_62 (by decide) ?_
        refine V_sub [0, 1, 2, 3, 4, 5, 6, 7, 8, 9, 10, 11, 12, 13, 15] rfl ?_
        exact k_L_isSo_66 hT hl C hr hnm htab (fun h => ih h) h
def w_L_isSo_6  (Q : Nat → Int32 → Sg → Prop) : Nat → Int32 → Int32 → Int32 → Int32 → Sg → Prop
  | 0, _, _, _, _, _ => False
  | n + 1, x11, x12, x13, x14, S => (vp_in 7 8 ∧ (((S.1 112 (nt 7)) ≤ x14 → ∃ n9, w_L_isSo_38  Q n9 x11 x12 x13 0 0 S) ∧ (¬ (S.1 112 (nt 7)) ≤ x14 → (vp_in x14 64 ∧ (∀ v129, v129 = x13 + (S.1 109 (nt x14)) → w_L_isSo_6  Q n x11 x12 v129 (x14 + 1) S)))))
theorem k_L_isSo_6 (hT : xT X = tb1) (hl : l.stackTraces = false) (C : Cn X k0 p l R s m meth c cL_isSo RL 23 14 321) (hr : meth.sig.returnType = (some .boolean)) (hnm : meth.name = yL_isSo.name) (htab : (∀ x ∈ c.exceptionTable.toList, False))  : ∀ n {x11 : Int32} {x12 : Int32} {x13 : Int32} {x14 : Int32} {S : Sg}, w_L_isSo_6  Qa n x11 x12 x13 x14 S → V X p l e R s m args below meth c 23 (QM X below args s S0 ad0 rvI Qa) S0 ad0 S 6 [(0, Value.ref (enc 0 0)), (1, Value.ref (enc 13 3)), (2, Value.ref (enc 13 4)), (3, Value.ref (enc 13 5)), (4, Value.ref (enc 13 6)), (5, Value.ref (enc 13 7)), (6, Value.ref (enc 13 8)), (7, Value.ref (enc 13 9)), (8, Value.ref (enc 13 10)), (9, Value.ref (enc 13 11)), (10, Value.ref (enc 13 12)), (11, Value.int x11), (12, Value.int x12), (13, Value.int x13), (14, Value.int x14)] [] := by
  intro n
  induction n with
  | zero => intro x11 x12 x13 x14 S h; exact h.elim
  | succ n ih =>
    intro x11 x12 x13 x14 S h
    refine V_iload (pc := 6) C dL_isSo_6 14 rfl ?_
    refine V_aload (pc := 8) C dL_isSo_8 10 rfl ?_
    refine V_bipush (pc := 10) C (v := 7) dL_isSo_10 rfl ?_
    refine V_mld (pc := 12) C hT tb1_arr (n := 8) (c9 := 112) rfl rfl rfl h dL_isSo_12 (fun h => ?_)
    refine V_icmp_ge (pc := 13) (tgt := 32) C dL_isSo_13 (by decide) h (fun h => ?_) (fun h => ?_)
    · refine V_iconst (pc := 32) C (v := 0) dL_isSo_32 rfl ?_
      refine V_istore (pc := 33) C dL_isSo_33 (by decide) rfl ?_
      refine V_iconst (pc := 35) C (v := 0) dL_isSo_35 rfl ?_
      refine V_istore (pc := 36) C dL_isSo_36 (by decide) rfl ?_
      refine V_sub [2, 3, 4, 5, 6, 7, 8, 9, 10, 11, 12, 13, 14, 15, 1, 0] rfl ?_
      obtain ⟨n9, h⟩ := h
      exact k_L_isSo_38 hT hl C hr hnm htab  n9 h
    · refine V_iload (pc := 16) C dL_isSo_16 13 rfl ?_
      refine V_aload (pc := 18) C dL_isSo_18 7 rfl ?_
      refine V_iload (pc := 20) C dL_isSo_20 14 rfl ?_
      refine V_mld (pc := 22) C hT tb1_arr (n := 64) (c9 := 109) rfl rfl rfl h dL_isSo_22 (fun h => ?_)
      refine V_iadd (pc := 23) C dL_isSo_23 ?_
      refine V_nI fun v129 e9 => ?_
      replace h := h v129 e9; clear e9
      refine V_istore (pc := 24) C dL_isSo_24 (by decide) rfl ?_
      refine V_iinc (pc := 26) C (a := 14) (v := x14 + 1) dL_isSo_26 rfl rfl (by decide) rfl ?_
      refine V_goto (pc := 29) (tgt := 6) C dL_isSo_29 (by decide) ?_
      refine V_sub [2, 3, 4, 5, 6, 7, 8, 9, 10, 11, 12, 13, 14, 1, 0] rfl ?_
      exact ih h
def w_L_isSo (a11 : Int32) (a12 : Int32) (S : Sg) (Q : Nat → Int32 → Sg → Prop) : Prop := ∃ n9, w_L_isSo_6  Q n9 a11 a12 0 0 S
theorem ct_L_isSo (hT : xT X = tb1) (hl : l.stackTraces = false) {a11 : Int32} {a12 : Int32} {S : Sg} (h : w_L_isSo a11 a12 S Qa) : CT X k0 l yL_isSo cL_isSo 23 (some .boolean) 14 321 [Value.ref (enc 0 0), Value.ref (enc 13 3), Value.ref (enc 13 4), Value.ref (enc 13 5), Value.ref (enc 13 6), Value.ref (enc 13 7), Value.ref (enc 13 8), Value.ref (enc 13 9), Value.ref (enc 13 10), Value.ref (enc 13 11), Value.ref (enc 13 12), Value.int a11, Value.int a12] rvI S Qa :=
  CT_ofV (own := RL) (by decide +kernel) (le8 rfl) rfl hl fun p e R s m args below meth c ad0 C hr hnm htab => by
    refine V_iconst (pc := 0) C (v := 0) dL_isSo_0 rfl ?_
    refine V_istore (pc := 1) C dL_isSo_1 (by decide) rfl ?_
    refine V_iconst (pc := 3) C (v := 0) dL_isSo_3 rfl ?_
    refine V_istore (pc := 4) C dL_isSo_4 (by decide) rfl ?_
    refine V_sub [2, 3, 4, 5, 6, 7, 8, 9, 10, 11, 12, 13, 14, 1, 0] rfl ?_
    obtain ⟨n9, h⟩ := h
    exact k_L_isSo_6 hT hl C hr hnm htab  n9 h
end LB81
