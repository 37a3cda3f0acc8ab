set_option maxRecDepth 100000 in
set_option maxHeartbeats 8000000 in
theorem mL_law {w : WX} {adr : Nat → Nat → Nat} {k : KX} {b0 L : Nat} {xs : Nat → Int32} (hj : Ij adr) (C : Cx w adr k cL_law RL 4 9 310) (X0 : Sx k b0 L xs) (Rl : Rlw k b0) (S : St) : Ge w adr k 16 [(2, .ref (adr 35 0)), (1, .ref (adr 0 0)), (0, .ref b0)] [] S (fL_law L xs S) := by
  refine ge_iconst (v := 0) (n := 17) C dL_law_16 (by decide) rfl ?_
  refine ge_istore_n (n := 18) (lv2 := [(3, .int (0 : Int32)), (2, .ref (adr 35 0)), (1, .ref (adr 0 0)), (0, .ref b0)]) C dL_law_17 rfl rfl (by decide) rfl ?_
  refine ge_jn (fun (jj : St → Op) => ∀ (S_1098 : St), Ge w adr k 1098 [] [] S_1098 (jj S_1098)) (fun S_1098 => ?_) (fun kk18 hkk18 => ?_)
  · refine ge_iconst (v := 1) (n := 1099) C dL_law_1098 (by decide) rfl ?_
    exact ge_lret C Rl dL_law_1099
  refine ge_lop (fun (jj : Int32 → St → Op) => ∀ (x3_18 : Int32) (S_18 : St), Ge w adr k 18 [(3, .int x3_18), (2, .ref (adr 35 0)), (1, .ref (adr 0 0)), (0, .ref b0)] [] S_18 (jj x3_18 S_18)) (fun _ _ => ge_none) (fun ag18 hag18 x3_18 S_18 => ?_) FU (0 : Int32) S
  refine ge_iload_n (n := 19) C 0 rfl dL_law_18 rfl rfl ?_
  refine ge_aload_n (n := 20) C 3 rfl dL_law_19 rfl rfl ?_
  refine ge_slen (n := 21) C X0 dL_law_20 rfl ?_
  refine ge_iconst (v := 5) (n := 22) C dL_law_21 (by decide) rfl ?_
  refine ge_isub (n := 23) C dL_law_22 rfl ?_
  refine ge_icmp_gt (t := 1098) (n := 26) C dL_law_23 (by decide) rfl (fun h_23 => ?_) (fun h_23 => ?_)
  · refine ge_sub [] rfl ?_
    exact hkk18 S_18
  · refine ge_aload_n (n := 27) C 3 rfl dL_law_26 rfl rfl ?_
    refine ge_iload_n (n := 28) C 0 rfl dL_law_27 rfl rfl ?_
    refine ge_sld (n := 29) C X0 dL_law_28 rfl ?_
    refine ge_bipush (v := 31) (n := 31) C dL_law_29 (by decide) rfl ?_
    refine ge_iand (n := 32) C dL_law_31 rfl ?_
    refine ge_bi (fun t_32 => ?_)
    refine ge_if (fun hs_0 => ?_) (fun hs_0 => ?_)
    · refine ge_tsIn (t := 176) C dL_law_32 (by rw [hs_0]; decide) (by rw [hs_0]; decide) (by rw [hs_0]; rfl) (by decide) ?_
      refine ge_aload_n (n := 177) C 2 rfl dL_law_176 rfl rfl ?_
      refine ge_aload_n (n := 178) C 3 rfl dL_law_177 rfl rfl ?_
      refine ge_iload_n (n := 179) C 0 rfl dL_law_178 rfl rfl ?_
      refine ge_iconst (v := 1) (n := 180) C dL_law_179 (by decide) rfl ?_
      refine ge_iadd (n := 181) C dL_law_180 rfl ?_
      refine ge_sld (n := 182) C X0 dL_law_181 rfl ?_
      refine ge_callVi (n := 185) C (mX10_feed hj (xs (Int32.toNatClampNeg (x3_18 + (1 : Int32)))) S_18) gv_L_13 (cl_0 (by decide)) rfl rfl hc_X10_feed ⟨Nat.le_of_ble_eq_true rfl, Nat.le_of_ble_eq_true rfl⟩ rfl rfl (Nat.le_of_ble_eq_true rfl) dL_law_182 rfl (fun r_182 S_182 => ?_)
      refine ge_aload_n (n := 186) C 1 rfl dL_law_185 rfl rfl ?_
      refine ge_aload_n (n := 187) C 3 rfl dL_law_186 rfl rfl ?_
      refine ge_iload_n (n := 188) C 0 rfl dL_law_187 rfl rfl ?_
      refine ge_iconst (v := 1) (n := 189) C dL_law_188 (by decide) rfl ?_
      refine ge_iadd (n := 190) C dL_law_189 rfl ?_
      refine ge_sld (n := 191) C X0 dL_law_190 rfl ?_
      refine ge_callVi (n := 194) C (mX11_feed hj (xs (Int32.toNatClampNeg (x3_18 + (1 : Int32)))) S_182) gv_L_17 (cl_35 (by decide)) rfl rfl hc_X11_feed ⟨Nat.le_of_ble_eq_true rfl, Nat.le_of_ble_eq_true rfl⟩ rfl rfl (Nat.le_of_ble_eq_true rfl) dL_law_191 rfl (fun r_191 S_191 => ?_)
      refine ge_icmp_eq (t := 1092) (n := 197) C dL_law_194 (by decide) rfl (fun h_194 => ?_) (fun h_194 => ?_)
      · refine ge_iinc (n := 1095) (v := (x3_18 + (5 : Int32))) (lv2 := [(3, .int (x3_18 + (5 : Int32))), (2, .ref (adr 35 0)), (1, .ref (adr 0 0)), (0, .ref b0)]) C 0 rfl dL_law_1092 rfl rfl (by decide) rfl ?_
        refine ge_goto (n := 18) C dL_law_1095 (by decide) ?_
        exact hag18 (x3_18 + (5 : Int32)) S_191
      · refine ge_iconst (v := 0) (n := 198) C dL_law_197 (by decide) rfl ?_
        exact ge_none
    refine ge_if (fun hs_1 => ?_) (fun hs_1 => ?_)
    · refine ge_tsIn (t := 199) C dL_law_32 (by rw [hs_1]; decide) (by rw [hs_1]; decide) (by rw [hs_1]; rfl) (by decide) ?_
      refine ge_aload_n (n := 200) C 2 rfl dL_law_199 rfl rfl ?_
      refine ge_callVi (n := 203) C (mX10_yard hj S_18) gv_L_18 (cl_0 (by decide)) rfl rfl hc_X10_yard ⟨Nat.le_of_ble_eq_true rfl, Nat.le_of_ble_eq_true rfl⟩ rfl rfl (Nat.le_of_ble_eq_true rfl) dL_law_200 rfl (fun r_200 S_200 => ?_)
      refine ge_aload_n (n := 204) C 1 rfl dL_law_203 rfl rfl ?_
      refine ge_callVi (n := 207) C (mX11_yard hj S_200) gv_L_22 (cl_35 (by decide)) rfl rfl hc_X11_yard ⟨Nat.le_of_ble_eq_true rfl, Nat.le_of_ble_eq_true rfl⟩ rfl rfl (Nat.le_of_ble_eq_true rfl) dL_law_204 rfl (fun r_204 S_204 => ?_)
      refine ge_icmp_eq (t := 1092) (n := 210) C dL_law_207 (by decide) rfl (fun h_207 => ?_) (fun h_207 => ?_)
      · refine ge_iinc (n := 1095) (v := (x3_18 + (5 : Int32))) (lv2 := [(3, .int (x3_18 + (5 : Int32))), (2, .ref (adr 35 0)), (1, .ref (adr 0 0)), (0, .ref b0)]) C 0 rfl dL_law_1092 rfl rfl (by decide) rfl ?_
        refine ge_goto (n := 18) C dL_law_1095 (by decide) ?_
        exact hag18 (x3_18 + (5 : Int32)) S_204
      · refine ge_iconst (v := 0) (n := 211) C dL_law_210 (by decide) rfl ?_
        exact ge_none
    refine ge_if (fun hs_2 => ?_) (fun hs_2 => ?_)
    · refine ge_tsIn (t := 212) C dL_law_32 (by rw [hs_2]; decide) (by rw [hs_2]; decide) (by rw [hs_2]; rfl) (by decide) ?_
      refine ge_aload_n (n := 213) C 2 rfl dL_law_212 rfl rfl ?_
      refine ge_callVi (n := 216) C (mX10_fault hj S_18) gv_L_23 (cl_0 (by decide)) rfl rfl hc_X10_fault ⟨Nat.le_of_ble_eq_true rfl, Nat.le_of_ble_eq_true rfl⟩ rfl rfl (Nat.le_of_ble_eq_true rfl) dL_law_213 rfl (fun r_213 S_213 => ?_)
      refine ge_aload_n (n := 217) C 1 rfl dL_law_216 rfl rfl ?_
      refine ge_callVi (n := 220) C (mX11_fault hj S_213) gv_L_26 (cl_35 (by decide)) rfl rfl hc_X11_fault ⟨Nat.le_of_ble_eq_true rfl, Nat.le_of_ble_eq_true rfl⟩ rfl rfl (Nat.le_of_ble_eq_true rfl) dL_law_217 rfl (fun r_217 S_217 => ?_)
      refine ge_icmp_eq (t := 1092) (n := 223) C dL_law_220 (by decide) rfl (fun h_220 => ?_) (fun h_220 => ?_)
      · refine ge_iinc (n := 1095) (v := (x3_18 + (5 : Int32))) (lv2 := [(3, .int (x3_18 + (5 : Int32))), (2, .ref (adr 35 0)), (1, .ref (adr 0 0)), (0, .ref b0)]) C 0 rfl dL_law_1092 rfl rfl (by decide) rfl ?_
        refine ge_goto (n := 18) C dL_law_1095 (by decide) ?_
        exact hag18 (x3_18 + (5 : Int32)) S_217
      · refine ge_iconst (v := 0) (n := 224) C dL_law_223 (by decide) rfl ?_
        exact ge_none
    refine ge_if (fun hs_3 => ?_) (fun hs_3 => ?_)
    · refine ge_tsIn (t := 225) C dL_law_32 (by rw [hs_3]; decide) (by rw [hs_3]; decide) (by rw [hs_3]; rfl) (by decide) ?_
      refine ge_aload_n (n := 226) C 2 rfl dL_law_225 rfl rfl ?_
      refine ge_aload_n (n := 227) C 3 rfl dL_law_226 rfl rfl ?_
      refine ge_iload_n (n := 228) C 0 rfl dL_law_227 rfl rfl ?_
      refine ge_iconst (v := 1) (n := 229) C dL_law_228 (by decide) rfl ?_
      refine ge_iadd (n := 230) C dL_law_229 rfl ?_
      refine ge_sld (n := 231) C X0 dL_law_230 rfl ?_
      refine ge_callVi (n := 234) C (mX10_told hj (xs (Int32.toNatClampNeg (x3_18 + (1 : Int32)))) S_18) gv_L_27 (cl_0 (by decide)) rfl rfl hc_X10_told ⟨Nat.le_of_ble_eq_true rfl, Nat.le_of_ble_eq_true rfl⟩ rfl rfl (Nat.le_of_ble_eq_true rfl) dL_law_231 rfl (fun r_231 S_231 => ?_)
      refine ge_aload_n (n := 235) C 1 rfl dL_law_234 rfl rfl ?_
      refine ge_aload_n (n := 236) C 3 rfl dL_law_235 rfl rfl ?_
      refine ge_iload_n (n := 237) C 0 rfl dL_law_236 rfl rfl ?_
      refine ge_iconst (v := 1) (n := 238) C dL_law_237 (by decide) rfl ?_
      refine ge_iadd (n := 239) C dL_law_238 rfl ?_
      refine ge_sld (n := 240) C X0 dL_law_239 rfl ?_
      refine ge_callVi (n := 243) C (mX11_told hj (xs (Int32.toNatClampNeg (x3_18 + (1 : Int32)))) S_231) gv_L_30 (cl_35 (by decide)) rfl rfl hc_X11_told ⟨Nat.le_of_ble_eq_true rfl, Nat.le_of_ble_eq_true rfl⟩ rfl rfl (Nat.le_of_ble_eq_true rfl) dL_law_240 rfl (fun r_240 S_240 => ?_)
      refine ge_icmp_eq (t := 1092) (n := 246) C dL_law_243 (by decide) rfl (fun h_243 => ?_) (fun h_243 => ?_)
      · refine ge_iinc (n := 1095) (v := (x3_18 + (5 : Int32))) (lv2 := [(3, .int (x3_18 + (5 : Int32))), (2, .ref (adr 35 0)), (1, .ref (adr 0 0)), (0, .ref b0)]) C 0 rfl dL_law_1092 rfl rfl (by decide) rfl ?_
        refine ge_goto (n := 18) C dL_law_1095 (by decide) ?_
        exact hag18 (x3_18 + (5 : Int32)) S_240
      · refine ge_iconst (v := 0) (n := 247) C dL_law_246 (by decide) rfl ?_
        exact ge_none
    refine ge_if (fun hs_4 => ?_) (fun hs_4 => ?_)
    · refine ge_tsIn (t := 248) C dL_law_32 (by rw [hs_4]; decide) (by rw [hs_4]; decide) (by rw [hs_4]; rfl) (by decide) ?_
      refine ge_aload_n (n := 249) C 2 rfl dL_law_248 rfl rfl ?_
      refine ge_aload_n (n := 250) C 3 rfl dL_law_249 rfl rfl ?_
      refine ge_iload_n (n := 251) C 0 rfl dL_law_250 rfl rfl ?_
      refine ge_iconst (v := 1) (n := 252) C dL_law_251 (by decide) rfl ?_
      refine ge_iadd (n := 253) C dL_law_252 rfl ?_
      refine ge_sld (n := 254) C X0 dL_law_253 rfl ?_
      refine ge_aload_n (n := 255) C 3 rfl dL_law_254 rfl rfl ?_
      refine ge_iload_n (n := 256) C 0 rfl dL_law_255 rfl rfl ?_
      refine ge_iconst (v := 2) (n := 257) C dL_law_256 (by decide) rfl ?_
      refine ge_iadd (n := 258) C dL_law_257 rfl ?_
      refine ge_sld (n := 259) C X0 dL_law_258 rfl ?_
      refine ge_callVi (n := 262) C (mX10_man hj (xs (Int32.toNatClampNeg (x3_18 + (1 : Int32)))) (xs (Int32.toNatClampNeg (x3_18 + (2 : Int32)))) S_18) gv_L_31 (cl_0 (by decide)) rfl rfl hc_X10_man ⟨Nat.le_of_ble_eq_true rfl, Nat.le_of_ble_eq_true rfl⟩ rfl rfl (Nat.le_of_ble_eq_true rfl) dL_law_259 rfl (fun r_259 S_259 => ?_)
      refine ge_aload_n (n := 263) C 1 rfl dL_law_262 rfl rfl ?_
      refine ge_aload_n (n := 264) C 3 rfl dL_law_263 rfl rfl ?_
      refine ge_iload_n (n := 265) C 0 rfl dL_law_264 rfl rfl ?_
      refine ge_iconst (v := 1) (n := 266) C dL_law_265 (by decide) rfl ?_
      refine ge_iadd (n := 267) C dL_law_266 rfl ?_
      refine ge_sld (n := 268) C X0 dL_law_267 rfl ?_
      refine ge_aload_n (n := 269) C 3 rfl dL_law_268 rfl rfl ?_
      refine ge_iload_n (n := 270) C 0 rfl dL_law_269 rfl rfl ?_
      refine ge_iconst (v := 2) (n := 271) C dL_law_270 (by decide) rfl ?_
      refine ge_iadd (n := 272) C dL_law_271 rfl ?_
      refine ge_sld (n := 273) C X0 dL_law_272 rfl ?_
      refine ge_callVi (n := 276) C (mX11_man hj (xs (Int32.toNatClampNeg (x3_18 + (1 : Int32)))) (xs (Int32.toNatClampNeg (x3_18 + (2 : Int32)))) S_259) gv_L_35 (cl_35 (by decide)) rfl rfl hc_X11_man ⟨Nat.le_of_ble_eq_true rfl, Nat.le_of_ble_eq_true rfl⟩ rfl rfl (Nat.le_of_ble_eq_true rfl) dL_law_273 rfl (fun r_273 S_273 => ?_)
      refine ge_icmp_eq (t := 1092) (n := 279) C dL_law_276 (by decide) rfl (fun h_276 => ?_) (fun h_276 => ?_)
      · refine ge_iinc (n := 1095) (v := (x3_18 + (5 : Int32))) (lv2 := [(3, .int (x3_18 + (5 : Int32))), (2, .ref (adr 35 0)), (1, .ref (adr 0 0)), (0, .ref b0)]) C 0 rfl dL_law_1092 rfl rfl (by decide) rfl ?_
        refine ge_goto (n := 18) C dL_law_1095 (by decide) ?_
        exact hag18 (x3_18 + (5 : Int32)) S_273
      · refine ge_iconst (v := 0) (n := 280) C dL_law_279 (by decide) rfl ?_
        exact ge_none
    refine ge_if (fun hs_5 => ?_) (fun hs_5 => ?_)
    · refine ge_tsIn (t := 281) C dL_law_32 (by rw [hs_5]; decide) (by rw [hs_5]; decide) (by rw [hs_5]; rfl) (by decide) ?_
      refine ge_aload_n (n := 282) C 2 rfl dL_law_281 rfl rfl ?_
      refine ge_aload_n (n := 283) C 3 rfl dL_law_282 rfl rfl ?_
      refine ge_iload_n (n := 284) C 0 rfl dL_law_283 rfl rfl ?_
      refine ge_iconst (v := 1) (n := 285) C dL_law_284 (by decide) rfl ?_
      refine ge_iadd (n := 286) C dL_law_285 rfl ?_
      refine ge_sld (n := 287) C X0 dL_law_286 rfl ?_
      refine ge_aload_n (n := 288) C 3 rfl dL_law_287 rfl rfl ?_
      refine ge_iload_n (n := 289) C 0 rfl dL_law_288 rfl rfl ?_
      refine ge_iconst (v := 2) (n := 290) C dL_law_289 (by decide) rfl ?_
      refine ge_iadd (n := 291) C dL_law_290 rfl ?_
      refine ge_sld (n := 292) C X0 dL_law_291 rfl ?_
      refine ge_aload_n (n := 293) C 3 rfl dL_law_292 rfl rfl ?_
      refine ge_iload_n (n := 294) C 0 rfl dL_law_293 rfl rfl ?_
      refine ge_iconst (v := 3) (n := 295) C dL_law_294 (by decide) rfl ?_
      refine ge_iadd (n := 296) C dL_law_295 rfl ?_
      refine ge_sld (n := 297) C X0 dL_law_296 rfl ?_
      refine ge_callVi (n := 300) C (mX10_skin hj (xs (Int32.toNatClampNeg (x3_18 + (1 : Int32)))) (xs (Int32.toNatClampNeg (x3_18 + (2 : Int32)))) (xs (Int32.toNatClampNeg (x3_18 + (3 : Int32)))) S_18) gv_L_36 (cl_0 (by decide)) rfl rfl hc_X10_skin ⟨Nat.le_of_ble_eq_true rfl, Nat.le_of_ble_eq_true rfl⟩ rfl rfl (Nat.le_of_ble_eq_true rfl) dL_law_297 rfl (fun r_297 S_297 => ?_)
      refine ge_aload_n (n := 301) C 1 rfl dL_law_300 rfl rfl ?_
      refine ge_aload_n (n := 302) C 3 rfl dL_law_301 rfl rfl ?_
      refine ge_iload_n (n := 303) C 0 rfl dL_law_302 rfl rfl ?_
      refine ge_iconst (v := 1) (n := 304) C dL_law_303 (by decide) rfl ?_
      refine ge_iadd (n := 305) C dL_law_304 rfl ?_
      refine ge_sld (n := 306) C X0 dL_law_305 rfl ?_
      refine ge_aload_n (n := 307) C 3 rfl dL_law_306 rfl rfl ?_
      refine ge_iload_n (n := 308) C 0 rfl dL_law_307 rfl rfl ?_
      refine ge_iconst (v := 2) (n := 309) C dL_law_308 (by decide) rfl ?_
      refine ge_iadd (n := 310) C dL_law_309 rfl ?_
      refine ge_sld (n := 311) C X0 dL_law_310 rfl ?_
      refine ge_aload_n (n := 312) C 3 rfl dL_law_311 rfl rfl ?_
      refine ge_iload_n (n := 313) C 0 rfl dL_law_312 rfl rfl ?_
      refine ge_iconst (v := 3) (n := 314) C dL_law_313 (by decide) rfl ?_
      refine ge_iadd (n := 315) C dL_law_314 rfl ?_
      refine ge_sld (n := 316) C X0 dL_law_315 rfl ?_
      refine ge_callVi (n := 319) C (mX11_skin hj (xs (Int32.toNatClampNeg (x3_18 + (1 : Int32)))) (xs (Int32.toNatClampNeg (x3_18 + (2 : Int32)))) (xs (Int32.toNatClampNeg (x3_18 + (3 : Int32)))) S_297) gv_L_40 (cl_35 (by decide)) rfl rfl hc_X11_skin ⟨Nat.le_of_ble_eq_true rfl, Nat.le_of_ble_eq_true rfl⟩ rfl rfl (Nat.le_of_ble_eq_true rfl) dL_law_316 rfl (fun r_316 S_316 => ?_)
      refine ge_icmp_eq (t := 1092) (n := 322) C dL_law_319 (by decide) rfl (fun h_319 => ?_) (fun h_319 => ?_)
      · refine ge_iinc (n := 1095) (v := (x3_18 + (5 : Int32))) (lv2 := [(3, .int (x3_18 + (5 : Int32))), (2, .ref (adr 35 0)), (1, .ref (adr 0 0)), (0, .ref b0)]) C 0 rfl dL_law_1092 rfl rfl (by decide) rfl ?_
        refine ge_goto (n := 18) C dL_law_1095 (by decide) ?_
        exact hag18 (x3_18 + (5 : Int32)) S_316
      · refine ge_iconst (v := 0) (n := 323) C dL_law_322 (by decide) rfl ?_
        exact ge_none
    refine ge_if (fun hs_6 => ?_) (fun hs_6 => ?_)
    · refine ge_tsIn (t := 324) C dL_law_32 (by rw [hs_6]; decide) (by rw [hs_6]; decide) (by rw [hs_6]; rfl) (by decide) ?_
      refine ge_aload_n (n := 325) C 2 rfl dL_law_324 rfl rfl ?_
      refine ge_aload_n (n := 326) C 3 rfl dL_law_325 rfl rfl ?_
      refine ge_iload_n (n := 327) C 0 rfl dL_law_326 rfl rfl ?_
      refine ge_iconst (v := 1) (n := 328) C dL_law_327 (by decide) rfl ?_
      refine ge_iadd (n := 329) C dL_law_328 rfl ?_
      refine ge_sld (n := 330) C X0 dL_law_329 rfl ?_
      refine ge_aload_n (n := 331) C 3 rfl dL_law_330 rfl rfl ?_
      refine ge_iload_n (n := 332) C 0 rfl dL_law_331 rfl rfl ?_
      refine ge_iconst (v := 2) (n := 333) C dL_law_332 (by decide) rfl ?_
      refine ge_iadd (n := 334) C dL_law_333 rfl ?_
      refine ge_sld (n := 335) C X0 dL_law_334 rfl ?_
      refine ge_callVi (n := 338) C (mX10_saying hj (xs (Int32.toNatClampNeg (x3_18 + (1 : Int32)))) (xs (Int32.toNatClampNeg (x3_18 + (2 : Int32)))) S_18) gv_L_41 (cl_0 (by decide)) rfl rfl hc_X10_saying ⟨Nat.le_of_ble_eq_true rfl, Nat.le_of_ble_eq_true rfl⟩ rfl rfl (Nat.le_of_ble_eq_true rfl) dL_law_335 rfl (fun r_335 S_335 => ?_)
      refine ge_aload_n (n := 339) C 1 rfl dL_law_338 rfl rfl ?_
      refine ge_aload_n (n := 340) C 3 rfl dL_law_339 rfl rfl ?_
      refine ge_iload_n (n := 341) C 0 rfl dL_law_340 rfl rfl ?_
      refine ge_iconst (v := 1) (n := 342) C dL_law_341 (by decide) rfl ?_
      refine ge_iadd (n := 343) C dL_law_342 rfl ?_
      refine ge_sld (n := 344) C X0 dL_law_343 rfl ?_
      refine ge_aload_n (n := 345) C 3 rfl dL_law_344 rfl rfl ?_
      refine ge_iload_n (n := 346) C 0 rfl dL_law_345 rfl rfl ?_
      refine ge_iconst (v := 2) (n := 347) C dL_law_346 (by decide) rfl ?_
      refine ge_iadd (n := 348) C dL_law_347 rfl ?_
      refine ge_sld (n := 349) C X0 dL_law_348 rfl ?_
      refine ge_callVi (n := 352) C (mX11_saying hj (xs (Int32.toNatClampNeg (x3_18 + (1 : Int32)))) (xs (Int32.toNatClampNeg (x3_18 + (2 : Int32)))) S_335) gv_L_44 (cl_35 (by decide)) rfl rfl hc_X11_saying ⟨Nat.le_of_ble_eq_true rfl, Nat.le_of_ble_eq_true rfl⟩ rfl rfl (Nat.le_of_ble_eq_true rfl) dL_law_349 rfl (fun r_349 S_349 => ?_)
      refine ge_icmp_eq (t := 1092) (n := 355) C dL_law_352 (by decide) rfl (fun h_352 => ?_) (fun h_352 => ?_)
      · refine ge_iinc (n := 1095) (v := (x3_18 + (5 : Int32))) (lv2 := [(3, .int (x3_18 + (5 : Int32))), (2, .ref (adr 35 0)), (1, .ref (adr 0 0)), (0, .ref b0)]) C 0 rfl dL_law_1092 rfl rfl (by decide) rfl ?_
        refine ge_goto (n := 18) C dL_law_1095 (by decide) ?_
        exact hag18 (x3_18 + (5 : Int32)) S_349
      · refine ge_iconst (v := 0) (n := 356) C dL_law_355 (by decide) rfl ?_
        exact ge_none
    refine ge_if (fun hs_7 => ?_) (fun hs_7 => ?_)
    · refine ge_tsIn (t := 357) C dL_law_32 (by rw [hs_7]; decide) (by rw [hs_7]; decide) (by rw [hs_7]; rfl) (by decide) ?_
      refine ge_aload_n (n := 358) C 2 rfl dL_law_357 rfl rfl ?_
      refine ge_aload_n (n := 359) C 3 rfl dL_law_358 rfl rfl ?_
      refine ge_iload_n (n := 360) C 0 rfl dL_law_359 rfl rfl ?_
      refine ge_iconst (v := 1) (n := 361) C dL_law_360 (by decide) rfl ?_
      refine ge_iadd (n := 362) C dL_law_361 rfl ?_
      refine ge_sld (n := 363) C X0 dL_law_362 rfl ?_
      refine ge_aload_n (n := 364) C 3 rfl dL_law_363 rfl rfl ?_
      refine ge_iload_n (n := 365) C 0 rfl dL_law_364 rfl rfl ?_
      refine ge_iconst (v := 2) (n := 366) C dL_law_365 (by decide) rfl ?_
      refine ge_iadd (n := 367) C dL_law_366 rfl ?_
      refine ge_sld (n := 368) C X0 dL_law_367 rfl ?_
      refine ge_callVi (n := 371) C (mX10_hurt hj (xs (Int32.toNatClampNeg (x3_18 + (1 : Int32)))) (xs (Int32.toNatClampNeg (x3_18 + (2 : Int32)))) S_18) gv_L_45 (cl_0 (by decide)) rfl rfl hc_X10_hurt ⟨Nat.le_of_ble_eq_true rfl, Nat.le_of_ble_eq_true rfl⟩ rfl rfl (Nat.le_of_ble_eq_true rfl) dL_law_368 rfl (fun r_368 S_368 => ?_)
      refine ge_aload_n (n := 372) C 1 rfl dL_law_371 rfl rfl ?_
      refine ge_aload_n (n := 373) C 3 rfl dL_law_372 rfl rfl ?_
      refine ge_iload_n (n := 374) C 0 rfl dL_law_373 rfl rfl ?_
      refine ge_iconst (v := 1) (n := 375) C dL_law_374 (by decide) rfl ?_
      refine ge_iadd (n := 376) C dL_law_375 rfl ?_
      refine ge_sld (n := 377) C X0 dL_law_376 rfl ?_
      refine ge_aload_n (n := 378) C 3 rfl dL_law_377 rfl rfl ?_
      refine ge_iload_n (n := 379) C 0 rfl dL_law_378 rfl rfl ?_
      refine ge_iconst (v := 2) (n := 380) C dL_law_379 (by decide) rfl ?_
      refine ge_iadd (n := 381) C dL_law_380 rfl ?_
      refine ge_sld (n := 382) C X0 dL_law_381 rfl ?_
      refine ge_callVi (n := 385) C (mX11_hurt hj (xs (Int32.toNatClampNeg (x3_18 + (1 : Int32)))) (xs (Int32.toNatClampNeg (x3_18 + (2 : Int32)))) S_368) gv_L_48 (cl_35 (by decide)) rfl rfl hc_X11_hurt ⟨Nat.le_of_ble_eq_true rfl, Nat.le_of_ble_eq_true rfl⟩ rfl rfl (Nat.le_of_ble_eq_true rfl) dL_law_382 rfl (fun r_382 S_382 => ?_)
      refine ge_icmp_eq (t := 1092) (n := 388) C dL_law_385 (by decide) rfl (fun h_385 => ?_) (fun h_385 => ?_)
      · refine ge_iinc (n := 1095) (v := (x3_18 + (5 : Int32))) (lv2 := [(3, .int (x3_18 + (5 : Int32))), (2, .ref (adr 35 0)), (1, .ref (adr 0 0)), (0, .ref b0)]) C 0 rfl dL_law_1092 rfl rfl (by decide) rfl ?_
        refine ge_goto (n := 18) C dL_law_1095 (by decide) ?_
        exact hag18 (x3_18 + (5 : Int32)) S_382
      · refine ge_iconst (v := 0) (n := 389) C dL_law_388 (by decide) rfl ?_
        exact ge_none
    refine ge_if (fun hs_8 => ?_) (fun hs_8 => ?_)
    · refine ge_tsIn (t := 390) C dL_law_32 (by rw [hs_8]; decide) (by rw [hs_8]; decide) (by rw [hs_8]; rfl) (by decide) ?_
      refine ge_aload_n (n := 391) C 2 rfl dL_law_390 rfl rfl ?_
      refine ge_aload_n (n := 392) C 3 rfl dL_law_391 rfl rfl ?_
      refine ge_iload_n (n := 393) C 0 rfl dL_law_392 rfl rfl ?_
      refine ge_iconst (v := 1) (n := 394) C dL_law_393 (by decide) rfl ?_
      refine ge_iadd (n := 395) C dL_law_394 rfl ?_
      refine ge_sld (n := 396) C X0 dL_law_395 rfl ?_
      refine ge_callVi (n := 399) C (mX10_month hj (xs (Int32.toNatClampNeg (x3_18 + (1 : Int32)))) S_18) gv_L_49 (cl_0 (by decide)) rfl rfl hc_X10_month ⟨Nat.le_of_ble_eq_true rfl, Nat.le_of_ble_eq_true rfl⟩ rfl rfl (Nat.le_of_ble_eq_true rfl) dL_law_396 rfl (fun r_396 S_396 => ?_)
      refine ge_aload_n (n := 400) C 1 rfl dL_law_399 rfl rfl ?_
      refine ge_aload_n (n := 401) C 3 rfl dL_law_400 rfl rfl ?_
      refine ge_iload_n (n := 402) C 0 rfl dL_law_401 rfl rfl ?_
      refine ge_iconst (v := 1) (n := 403) C dL_law_402 (by decide) rfl ?_
      refine ge_iadd (n := 404) C dL_law_403 rfl ?_
      refine ge_sld (n := 405) C X0 dL_law_404 rfl ?_
      refine ge_callVi (n := 408) C (mX11_month hj (xs (Int32.toNatClampNeg (x3_18 + (1 : Int32)))) S_396) gv_L_52 (cl_35 (by decide)) rfl rfl hc_X11_month ⟨Nat.le_of_ble_eq_true rfl, Nat.le_of_ble_eq_true rfl⟩ rfl rfl (Nat.le_of_ble_eq_true rfl) dL_law_405 rfl (fun r_405 S_405 => ?_)
      refine ge_icmp_eq (t := 1092) (n := 411) C dL_law_408 (by decide) rfl (fun h_408 => ?_) (fun h_408 => ?_)
      · refine ge_iinc (n := 1095) (v := (x3_18 + (5 : Int32))) (lv2 := [(3, .int (x3_18 + (5 : Int32))), (2, .ref (adr 35 0)), (1, .ref (adr 0 0)), (0, .ref b0)]) C 0 rfl dL_law_1092 rfl rfl (by decide) rfl ?_
        refine ge_goto (n := 18) C dL_law_1095 (by decide) ?_
        exact hag18 (x3_18 + (5 : Int32)) S_405
      · refine ge_iconst (v := 0) (n := 412) C dL_law_411 (by decide) rfl ?_
        exact ge_none
    refine ge_if (fun hs_9 => ?_) (fun hs_9 => ?_)
    · refine ge_tsIn (t := 413) C dL_law_32 (by rw [hs_9]; decide) (by rw [hs_9]; decide) (by rw [hs_9]; rfl) (by decide) ?_
      refine ge_aload_n (n := 414) C 2 rfl dL_law_413 rfl rfl ?_
      refine ge_aload_n (n := 415) C 3 rfl dL_law_414 rfl rfl ?_
      refine ge_iload_n (n := 416) C 0 rfl dL_law_415 rfl rfl ?_
      refine ge_iconst (v := 1) (n := 417) C dL_law_416 (by decide) rfl ?_
      refine ge_iadd (n := 418) C dL_law_417 rfl ?_
      refine ge_sld (n := 419) C X0 dL_law_418 rfl ?_
      refine ge_callVi (n := 422) C (mX10_in hj (xs (Int32.toNatClampNeg (x3_18 + (1 : Int32)))) S_18) gv_L_53 (cl_0 (by decide)) rfl rfl hc_X10_in ⟨Nat.le_of_ble_eq_true rfl, Nat.le_of_ble_eq_true rfl⟩ rfl rfl (Nat.le_of_ble_eq_true rfl) dL_law_419 rfl (fun r_419 S_419 => ?_)
      refine ge_aload_n (n := 423) C 1 rfl dL_law_422 rfl rfl ?_
      refine ge_aload_n (n := 424) C 3 rfl dL_law_423 rfl rfl ?_
      refine ge_iload_n (n := 425) C 0 rfl dL_law_424 rfl rfl ?_
      refine ge_iconst (v := 1) (n := 426) C dL_law_425 (by decide) rfl ?_
      refine ge_iadd (n := 427) C dL_law_426 rfl ?_
      refine ge_sld (n := 428) C X0 dL_law_427 rfl ?_
      refine ge_callVi (n := 431) C (mX11_in hj (xs (Int32.toNatClampNeg (x3_18 + (1 : Int32)))) S_419) gv_L_56 (cl_35 (by decide)) rfl rfl hc_X11_in ⟨Nat.le_of_ble_eq_true rfl, Nat.le_of_ble_eq_true rfl⟩ rfl rfl (Nat.le_of_ble_eq_true rfl) dL_law_428 rfl (fun r_428 S_428 => ?_)
      refine ge_icmp_eq (t := 1092) (n := 434) C dL_law_431 (by decide) rfl (fun h_431 => ?_) (fun h_431 => ?_)
      · refine ge_iinc (n := 1095) (v := (x3_18 + (5 : Int32))) (lv2 := [(3, .int (x3_18 + (5 : Int32))), (2, .ref (adr 35 0)), (1, .ref (adr 0 0)), (0, .ref b0)]) C 0 rfl dL_law_1092 rfl rfl (by decide) rfl ?_
        refine ge_goto (n := 18) C dL_law_1095 (by decide) ?_
        exact hag18 (x3_18 + (5 : Int32)) S_428
      · refine ge_iconst (v := 0) (n := 435) C dL_law_434 (by decide) rfl ?_
        exact ge_none
    refine ge_if (fun hs_10 => ?_) (fun hs_10 => ?_)
    · refine ge_tsIn (t := 436) C dL_law_32 (by rw [hs_10]; decide) (by rw [hs_10]; decide) (by rw [hs_10]; rfl) (by decide) ?_
      refine ge_aload_n (n := 437) C 2 rfl dL_law_436 rfl rfl ?_
      refine ge_aload_n (n := 438) C 3 rfl dL_law_437 rfl rfl ?_
      refine ge_iload_n (n := 439) C 0 rfl dL_law_438 rfl rfl ?_
      refine ge_iconst (v := 1) (n := 440) C dL_law_439 (by decide) rfl ?_
      refine ge_iadd (n := 441) C dL_law_440 rfl ?_
      refine ge_sld (n := 442) C X0 dL_law_441 rfl ?_
      refine ge_callVi (n := 445) C (mX10_out hj (xs (Int32.toNatClampNeg (x3_18 + (1 : Int32)))) S_18) gv_L_57 (cl_0 (by decide)) rfl rfl hc_X10_out ⟨Nat.le_of_ble_eq_true rfl, Nat.le_of_ble_eq_true rfl⟩ rfl rfl (Nat.le_of_ble_eq_true rfl) dL_law_442 rfl (fun r_442 S_442 => ?_)
      refine ge_aload_n (n := 446) C 1 rfl dL_law_445 rfl rfl ?_
      refine ge_aload_n (n := 447) C 3 rfl dL_law_446 rfl rfl ?_
      refine ge_iload_n (n := 448) C 0 rfl dL_law_447 rfl rfl ?_
      refine ge_iconst (v := 1) (n := 449) C dL_law_448 (by decide) rfl ?_
      refine ge_iadd (n := 450) C dL_law_449 rfl ?_
      refine ge_sld (n := 451) C X0 dL_law_450 rfl ?_
      refine ge_callVi (n := 454) C (mX11_out hj (xs (Int32.toNatClampNeg (x3_18 + (1 : Int32)))) S_442) gv_L_60 (cl_35 (by decide)) rfl rfl hc_X11_out ⟨Nat.le_of_ble_eq_true rfl, Nat.le_of_ble_eq_true rfl⟩ rfl rfl (Nat.le_of_ble_eq_true rfl) dL_law_451 rfl (fun r_451 S_451 => ?_)
      refine ge_icmp_eq (t := 1092) (n := 457) C dL_law_454 (by decide) rfl (fun h_454 => ?_) (fun h_454 => ?_)
      · refine ge_iinc (n := 1095) (v := (x3_18 + (5 : Int32))) (lv2 := [(3, .int (x3_18 + (5 : Int32))), (2, .ref (adr 35 0)), (1, .ref (adr 0 0)), (0, .ref b0)]) C 0 rfl dL_law_1092 rfl rfl (by decide) rfl ?_
        refine ge_goto (n := 18) C dL_law_1095 (by decide) ?_
        exact hag18 (x3_18 + (5 : Int32)) S_451
      · refine ge_iconst (v := 0) (n := 458) C dL_law_457 (by decide) rfl ?_
        exact ge_none
    refine ge_if (fun hs_11 => ?_) (fun hs_11 => ?_)
    · refine ge_tsIn (t := 459) C dL_law_32 (by rw [hs_11]; decide) (by rw [hs_11]; decide) (by rw [hs_11]; rfl) (by decide) ?_
      refine ge_aload_n (n := 460) C 2 rfl dL_law_459 rfl rfl ?_
      refine ge_aload_n (n := 461) C 3 rfl dL_law_460 rfl rfl ?_
      refine ge_iload_n (n := 462) C 0 rfl dL_law_461 rfl rfl ?_
      refine ge_iconst (v := 1) (n := 463) C dL_law_462 (by decide) rfl ?_
      refine ge_iadd (n := 464) C dL_law_463 rfl ?_
      refine ge_sld (n := 465) C X0 dL_law_464 rfl ?_
      refine ge_aload_n (n := 466) C 3 rfl dL_law_465 rfl rfl ?_
      refine ge_iload_n (n := 467) C 0 rfl dL_law_466 rfl rfl ?_
      refine ge_iconst (v := 2) (n := 468) C dL_law_467 (by decide) rfl ?_
      refine ge_iadd (n := 469) C dL_law_468 rfl ?_
      refine ge_sld (n := 470) C X0 dL_law_469 rfl ?_
      refine ge_aload_n (n := 471) C 3 rfl dL_law_470 rfl rfl ?_
      refine ge_iload_n (n := 472) C 0 rfl dL_law_471 rfl rfl ?_
      refine ge_iconst (v := 3) (n := 473) C dL_law_472 (by decide) rfl ?_
      refine ge_iadd (n := 474) C dL_law_473 rfl ?_
      refine ge_sld (n := 475) C X0 dL_law_474 rfl ?_
      refine ge_callVi (n := 478) C (mX10_scrape hj (xs (Int32.toNatClampNeg (x3_18 + (1 : Int32)))) (xs (Int32.toNatClampNeg (x3_18 + (2 : Int32)))) (xs (Int32.toNatClampNeg (x3_18 + (3 : Int32)))) S_18) gv_L_61 (cl_0 (by decide)) rfl rfl hc_X10_scrape ⟨Nat.le_of_ble_eq_true rfl, Nat.le_of_ble_eq_true rfl⟩ rfl rfl (Nat.le_of_ble_eq_true rfl) dL_law_475 rfl (fun r_475 S_475 => ?_)
      refine ge_aload_n (n := 479) C 1 rfl dL_law_478 rfl rfl ?_
      refine ge_aload_n (n := 480) C 3 rfl dL_law_479 rfl rfl ?_
      refine ge_iload_n (n := 481) C 0 rfl dL_law_480 rfl rfl ?_
      refine ge_iconst (v := 1) (n := 482) C dL_law_481 (by decide) rfl ?_
      refine ge_iadd (n := 483) C dL_law_482 rfl ?_
      refine ge_sld (n := 484) C X0 dL_law_483 rfl ?_
      refine ge_aload_n (n := 485) C 3 rfl dL_law_484 rfl rfl ?_
      refine ge_iload_n (n := 486) C 0 rfl dL_law_485 rfl rfl ?_
      refine ge_iconst (v := 2) (n := 487) C dL_law_486 (by decide) rfl ?_
      refine ge_iadd (n := 488) C dL_law_487 rfl ?_
      refine ge_sld (n := 489) C X0 dL_law_488 rfl ?_
      refine ge_aload_n (n := 490) C 3 rfl dL_law_489 rfl rfl ?_
      refine ge_iload_n (n := 491) C 0 rfl dL_law_490 rfl rfl ?_
      refine ge_iconst (v := 3) (n := 492) C dL_law_491 (by decide) rfl ?_
      refine ge_iadd (n := 493) C dL_law_492 rfl ?_
      refine ge_sld (n := 494) C X0 dL_law_493 rfl ?_
      refine ge_callVi (n := 497) C (mX11_scrape hj (xs (Int32.toNatClampNeg (x3_18 + (1 : Int32)))) (xs (Int32.toNatClampNeg (x3_18 + (2 : Int32)))) (xs (Int32.toNatClampNeg (x3_18 + (3 : Int32)))) S_475) gv_L_64 (cl_35 (by decide)) rfl rfl hc_X11_scrape ⟨Nat.le_of_ble_eq_true rfl, Nat.le_of_ble_eq_true rfl⟩ rfl rfl (Nat.le_of_ble_eq_true rfl) dL_law_494 rfl (fun r_494 S_494 => ?_)
      refine ge_icmp_eq (t := 1092) (n := 500) C dL_law_497 (by decide) rfl (fun h_497 => ?_) (fun h_497 => ?_)
      · refine ge_iinc (n := 1095) (v := (x3_18 + (5 : Int32))) (lv2 := [(3, .int (x3_18 + (5 : Int32))), (2, .ref (adr 35 0)), (1, .ref (adr 0 0)), (0, .ref b0)]) C 0 rfl dL_law_1092 rfl rfl (by decide) rfl ?_
        refine ge_goto (n := 18) C dL_law_1095 (by decide) ?_
        exact hag18 (x3_18 + (5 : Int32)) S_494
      · refine ge_iconst (v := 0) (n := 501) C dL_law_500 (by decide) rfl ?_
        exact ge_none
    refine ge_if (fun hs_12 => ?_) (fun hs_12 => ?_)
    · refine ge_tsIn (t := 502) C dL_law_32 (by rw [hs_12]; decide) (by rw [hs_12]; decide) (by rw [hs_12]; rfl) (by decide) ?_
      refine ge_aload_n (n := 503) C 2 rfl dL_law_502 rfl rfl ?_
      refine ge_aload_n (n := 504) C 3 rfl dL_law_503 rfl rfl ?_
      refine ge_iload_n (n := 505) C 0 rfl dL_law_504 rfl rfl ?_
      refine ge_iconst (v := 1) (n := 506) C dL_law_505 (by decide) rfl ?_
      refine ge_iadd (n := 507) C dL_law_506 rfl ?_
      refine ge_sld (n := 508) C X0 dL_law_507 rfl ?_
      refine ge_aload_n (n := 509) C 3 rfl dL_law_508 rfl rfl ?_
      refine ge_iload_n (n := 510) C 0 rfl dL_law_509 rfl rfl ?_
      refine ge_iconst (v := 2) (n := 511) C dL_law_510 (by decide) rfl ?_
      refine ge_iadd (n := 512) C dL_law_511 rfl ?_
      refine ge_sld (n := 513) C X0 dL_law_512 rfl ?_
      refine ge_callVi (n := 516) C (mX10_say hj (xs (Int32.toNatClampNeg (x3_18 + (1 : Int32)))) (xs (Int32.toNatClampNeg (x3_18 + (2 : Int32)))) S_18) gv_L_65 (cl_0 (by decide)) rfl rfl hc_X10_say ⟨Nat.le_of_ble_eq_true rfl, Nat.le_of_ble_eq_true rfl⟩ rfl rfl (Nat.le_of_ble_eq_true rfl) dL_law_513 rfl (fun r_513 S_513 => ?_)
      refine ge_aload_n (n := 517) C 1 rfl dL_law_516 rfl rfl ?_
      refine ge_aload_n (n := 518) C 3 rfl dL_law_517 rfl rfl ?_
      refine ge_iload_n (n := 519) C 0 rfl dL_law_518 rfl rfl ?_
      refine ge_iconst (v := 1) (n := 520) C dL_law_519 (by decide) rfl ?_
      refine ge_iadd (n := 521) C dL_law_520 rfl ?_
      refine ge_sld (n := 522) C X0 dL_law_521 rfl ?_
      refine ge_aload_n (n := 523) C 3 rfl dL_law_522 rfl rfl ?_
      refine ge_iload_n (n := 524) C 0 rfl dL_law_523 rfl rfl ?_
      refine ge_iconst (v := 2) (n := 525) C dL_law_524 (by decide) rfl ?_
      refine ge_iadd (n := 526) C dL_law_525 rfl ?_
      refine ge_sld (n := 527) C X0 dL_law_526 rfl ?_
      refine ge_callVi (n := 530) C (mX11_say hj (xs (Int32.toNatClampNeg (x3_18 + (1 : Int32)))) (xs (Int32.toNatClampNeg (x3_18 + (2 : Int32)))) S_513) gv_L_68 (cl_35 (by decide)) rfl rfl hc_X11_say ⟨Nat.le_of_ble_eq_true rfl, Nat.le_of_ble_eq_true rfl⟩ rfl rfl (Nat.le_of_ble_eq_true rfl) dL_law_527 rfl (fun r_527 S_527 => ?_)
      refine ge_icmp_eq (t := 1092) (n := 533) C dL_law_530 (by decide) rfl (fun h_530 => ?_) (fun h_530 => ?_)
      · refine ge_iinc (n := 1095) (v := (x3_18 + (5 : Int32))) (lv2 := [(3, .int (x3_18 + (5 : Int32))), (2, .ref (adr 35 0)), (1, .ref (adr 0 0)), (0, .ref b0)]) C 0 rfl dL_law_1092 rfl rfl (by decide) rfl ?_
        refine ge_goto (n := 18) C dL_law_1095 (by decide) ?_
        exact hag18 (x3_18 + (5 : Int32)) S_527
      · refine ge_iconst (v := 0) (n := 534) C dL_law_533 (by decide) rfl ?_
        exact ge_none
    refine ge_if (fun hs_13 => ?_) (fun hs_13 => ?_)
    · refine ge_tsIn (t := 535) C dL_law_32 (by rw [hs_13]; decide) (by rw [hs_13]; decide) (by rw [hs_13]; rfl) (by decide) ?_
      refine ge_aload_n (n := 536) C 2 rfl dL_law_535 rfl rfl ?_
      refine ge_aload_n (n := 537) C 3 rfl dL_law_536 rfl rfl ?_
      refine ge_iload_n (n := 538) C 0 rfl dL_law_537 rfl rfl ?_
      refine ge_iconst (v := 1) (n := 539) C dL_law_538 (by decide) rfl ?_
      refine ge_iadd (n := 540) C dL_law_539 rfl ?_
      refine ge_sld (n := 541) C X0 dL_law_540 rfl ?_
      refine ge_callVi (n := 544) C (mX10_bark hj (xs (Int32.toNatClampNeg (x3_18 + (1 : Int32)))) S_18) gv_L_69 (cl_0 (by decide)) rfl rfl hc_X10_bark ⟨Nat.le_of_ble_eq_true rfl, Nat.le_of_ble_eq_true rfl⟩ rfl rfl (Nat.le_of_ble_eq_true rfl) dL_law_541 rfl (fun r_541 S_541 => ?_)
      refine ge_aload_n (n := 545) C 1 rfl dL_law_544 rfl rfl ?_
      refine ge_aload_n (n := 546) C 3 rfl dL_law_545 rfl rfl ?_
      refine ge_iload_n (n := 547) C 0 rfl dL_law_546 rfl rfl ?_
      refine ge_iconst (v := 1) (n := 548) C dL_law_547 (by decide) rfl ?_
      refine ge_iadd (n := 549) C dL_law_548 rfl ?_
      refine ge_sld (n := 550) C X0 dL_law_549 rfl ?_
      refine ge_callVi (n := 553) C (mX11_bark hj (xs (Int32.toNatClampNeg (x3_18 + (1 : Int32)))) S_541) gv_L_72 (cl_35 (by decide)) rfl rfl hc_X11_bark ⟨Nat.le_of_ble_eq_true rfl, Nat.le_of_ble_eq_true rfl⟩ rfl rfl (Nat.le_of_ble_eq_true rfl) dL_law_550 rfl (fun r_550 S_550 => ?_)
      refine ge_icmp_eq (t := 1092) (n := 556) C dL_law_553 (by decide) rfl (fun h_553 => ?_) (fun h_553 => ?_)
      · refine ge_iinc (n := 1095) (v := (x3_18 + (5 : Int32))) (lv2 := [(3, .int (x3_18 + (5 : Int32))), (2, .ref (adr 35 0)), (1, .ref (adr 0 0)), (0, .ref b0)]) C 0 rfl dL_law_1092 rfl rfl (by decide) rfl ?_
        refine ge_goto (n := 18) C dL_law_1095 (by decide) ?_
        exact hag18 (x3_18 + (5 : Int32)) S_550
      · refine ge_iconst (v := 0) (n := 557) C dL_law_556 (by decide) rfl ?_
        exact ge_none
    refine ge_if (fun hs_14 => ?_) (fun hs_14 => ?_)
    · refine ge_tsIn (t := 558) C dL_law_32 (by rw [hs_14]; decide) (by rw [hs_14]; decide) (by rw [hs_14]; rfl) (by decide) ?_
      refine ge_aload_n (n := 559) C 2 rfl dL_law_558 rfl rfl ?_
      refine ge_aload_n (n := 560) C 3 rfl dL_law_559 rfl rfl ?_
      refine ge_iload_n (n := 561) C 0 rfl dL_law_560 rfl rfl ?_
      refine ge_iconst (v := 1) (n := 562) C dL_law_561 (by decide) rfl ?_
      refine ge_iadd (n := 563) C dL_law_562 rfl ?_
      refine ge_sld (n := 564) C X0 dL_law_563 rfl ?_
      refine ge_callVi (n := 567) C (mX10_drift hj (xs (Int32.toNatClampNeg (x3_18 + (1 : Int32)))) S_18) gv_L_73 (cl_0 (by decide)) rfl rfl hc_X10_drift ⟨Nat.le_of_ble_eq_true rfl, Nat.le_of_ble_eq_true rfl⟩ rfl rfl (Nat.le_of_ble_eq_true rfl) dL_law_564 rfl (fun r_564 S_564 => ?_)
      refine ge_aload_n (n := 568) C 1 rfl dL_law_567 rfl rfl ?_
      refine ge_aload_n (n := 569) C 3 rfl dL_law_568 rfl rfl ?_
      refine ge_iload_n (n := 570) C 0 rfl dL_law_569 rfl rfl ?_
      refine ge_iconst (v := 1) (n := 571) C dL_law_570 (by decide) rfl ?_
      refine ge_iadd (n := 572) C dL_law_571 rfl ?_
      refine ge_sld (n := 573) C X0 dL_law_572 rfl ?_
      refine ge_callVi (n := 576) C (mX11_drift hj (xs (Int32.toNatClampNeg (x3_18 + (1 : Int32)))) S_564) gv_L_76 (cl_35 (by decide)) rfl rfl hc_X11_drift ⟨Nat.le_of_ble_eq_true rfl, Nat.le_of_ble_eq_true rfl⟩ rfl rfl (Nat.le_of_ble_eq_true rfl) dL_law_573 rfl (fun r_573 S_573 => ?_)
      refine ge_icmp_eq (t := 1092) (n := 579) C dL_law_576 (by decide) rfl (fun h_576 => ?_) (fun h_576 => ?_)
      · refine ge_iinc (n := 1095) (v := (x3_18 + (5 : Int32))) (lv2 := [(3, .int (x3_18 + (5 : Int32))), (2, .ref (adr 35 0)), (1, .ref (adr 0 0)), (0, .ref b0)]) C 0 rfl dL_law_1092 rfl rfl (by decide) rfl ?_
        refine ge_goto (n := 18) C dL_law_1095 (by decide) ?_
        exact hag18 (x3_18 + (5 : Int32)) S_573
      · refine ge_iconst (v := 0) (n := 580) C dL_law_579 (by decide) rfl ?_
        exact ge_none
    refine ge_if (fun hs_15 => ?_) (fun hs_15 => ?_)
    · refine ge_tsIn (t := 581) C dL_law_32 (by rw [hs_15]; decide) (by rw [hs_15]; decide) (by rw [hs_15]; rfl) (by decide) ?_
      refine ge_aload_n (n := 582) C 2 rfl dL_law_581 rfl rfl ?_
      refine ge_callVi (n := 585) C (mX10_undo hj S_18) gv_L_77 (cl_0 (by decide)) rfl rfl hc_X10_undo ⟨Nat.le_of_ble_eq_true rfl, Nat.le_of_ble_eq_true rfl⟩ rfl rfl (Nat.le_of_ble_eq_true rfl) dL_law_582 rfl (fun r_582 S_582 => ?_)
      refine ge_aload_n (n := 586) C 1 rfl dL_law_585 rfl rfl ?_
      refine ge_callVi (n := 589) C (mX11_undo hj S_582) gv_L_80 (cl_35 (by decide)) rfl rfl hc_X11_undo ⟨Nat.le_of_ble_eq_true rfl, Nat.le_of_ble_eq_true rfl⟩ rfl rfl (Nat.le_of_ble_eq_true rfl) dL_law_586 rfl (fun r_586 S_586 => ?_)
      refine ge_icmp_eq (t := 1092) (n := 592) C dL_law_589 (by decide) rfl (fun h_589 => ?_) (fun h_589 => ?_)
      · refine ge_iinc (n := 1095) (v := (x3_18 + (5 : Int32))) (lv2 := [(3, .int (x3_18 + (5 : Int32))), (2, .ref (adr 35 0)), (1, .ref (adr 0 0)), (0, .ref b0)]) C 0 rfl dL_law_1092 rfl rfl (by decide) rfl ?_
        refine ge_goto (n := 18) C dL_law_1095 (by decide) ?_
        exact hag18 (x3_18 + (5 : Int32)) S_586
      · refine ge_iconst (v := 0) (n := 593) C dL_law_592 (by decide) rfl ?_
        exact ge_none
    refine ge_if (fun hs_16 => ?_) (fun hs_16 => ?_)
    · refine ge_tsIn (t := 594) C dL_law_32 (by rw [hs_16]; decide) (by rw [hs_16]; decide) (by rw [hs_16]; rfl) (by decide) ?_
      refine ge_aload_n (n := 595) C 2 rfl dL_law_594 rfl rfl ?_
      refine ge_aload_n (n := 596) C 3 rfl dL_law_595 rfl rfl ?_
      refine ge_iload_n (n := 597) C 0 rfl dL_law_596 rfl rfl ?_
      refine ge_iconst (v := 1) (n := 598) C dL_law_597 (by decide) rfl ?_
      refine ge_iadd (n := 599) C dL_law_598 rfl ?_
      refine ge_sld (n := 600) C X0 dL_law_599 rfl ?_
      refine ge_aload_n (n := 601) C 3 rfl dL_law_600 rfl rfl ?_
      refine ge_iload_n (n := 602) C 0 rfl dL_law_601 rfl rfl ?_
      refine ge_iconst (v := 2) (n := 603) C dL_law_602 (by decide) rfl ?_
      refine ge_iadd (n := 604) C dL_law_603 rfl ?_
      refine ge_sld (n := 605) C X0 dL_law_604 rfl ?_
      refine ge_aload_n (n := 606) C 3 rfl dL_law_605 rfl rfl ?_
      refine ge_iload_n (n := 607) C 0 rfl dL_law_606 rfl rfl ?_
      refine ge_iconst (v := 3) (n := 608) C dL_law_607 (by decide) rfl ?_
      refine ge_iadd (n := 609) C dL_law_608 rfl ?_
      refine ge_sld (n := 610) C X0 dL_law_609 rfl ?_
      refine ge_callVi (n := 613) C (mX10_thick hj (xs (Int32.toNatClampNeg (x3_18 + (1 : Int32)))) (xs (Int32.toNatClampNeg (x3_18 + (2 : Int32)))) (xs (Int32.toNatClampNeg (x3_18 + (3 : Int32)))) S_18) gv_L_81 (cl_0 (by decide)) rfl rfl hc_X10_thick ⟨Nat.le_of_ble_eq_true rfl, Nat.le_of_ble_eq_true rfl⟩ rfl rfl (Nat.le_of_ble_eq_true rfl) dL_law_610 rfl (fun r_610 S_610 => ?_)
      refine ge_aload_n (n := 614) C 1 rfl dL_law_613 rfl rfl ?_
      refine ge_aload_n (n := 615) C 3 rfl dL_law_614 rfl rfl ?_
      refine ge_iload_n (n := 616) C 0 rfl dL_law_615 rfl rfl ?_
      refine ge_iconst (v := 1) (n := 617) C dL_law_616 (by decide) rfl ?_
      refine ge_iadd (n := 618) C dL_law_617 rfl ?_
      refine ge_sld (n := 619) C X0 dL_law_618 rfl ?_
      refine ge_aload_n (n := 620) C 3 rfl dL_law_619 rfl rfl ?_
      refine ge_iload_n (n := 621) C 0 rfl dL_law_620 rfl rfl ?_
      refine ge_iconst (v := 2) (n := 622) C dL_law_621 (by decide) rfl ?_
      refine ge_iadd (n := 623) C dL_law_622 rfl ?_
      refine ge_sld (n := 624) C X0 dL_law_623 rfl ?_
      refine ge_aload_n (n := 625) C 3 rfl dL_law_624 rfl rfl ?_
      refine ge_iload_n (n := 626) C 0 rfl dL_law_625 rfl rfl ?_
      refine ge_iconst (v := 3) (n := 627) C dL_law_626 (by decide) rfl ?_
      refine ge_iadd (n := 628) C dL_law_627 rfl ?_
      refine ge_sld (n := 629) C X0 dL_law_628 rfl ?_
      refine ge_callVi (n := 632) C (mX11_thick hj (xs (Int32.toNatClampNeg (x3_18 + (1 : Int32)))) (xs (Int32.toNatClampNeg (x3_18 + (2 : Int32)))) (xs (Int32.toNatClampNeg (x3_18 + (3 : Int32)))) S_610) gv_L_84 (cl_35 (by decide)) rfl rfl hc_X11_thick ⟨Nat.le_of_ble_eq_true rfl, Nat.le_of_ble_eq_true rfl⟩ rfl rfl (Nat.le_of_ble_eq_true rfl) dL_law_629 rfl (fun r_629 S_629 => ?_)
      refine ge_icmp_eq (t := 1092) (n := 635) C dL_law_632 (by decide) rfl (fun h_632 => ?_) (fun h_632 => ?_)
      · refine ge_iinc (n := 1095) (v := (x3_18 + (5 : Int32))) (lv2 := [(3, .int (x3_18 + (5 : Int32))), (2, .ref (adr 35 0)), (1, .ref (adr 0 0)), (0, .ref b0)]) C 0 rfl dL_law_1092 rfl rfl (by decide) rfl ?_
        refine ge_goto (n := 18) C dL_law_1095 (by decide) ?_
        exact hag18 (x3_18 + (5 : Int32)) S_629
      · refine ge_iconst (v := 0) (n := 636) C dL_law_635 (by decide) rfl ?_
        exact ge_none
    refine ge_if (fun hs_17 => ?_) (fun hs_17 => ?_)
    · refine ge_tsIn (t := 637) C dL_law_32 (by rw [hs_17]; decide) (by rw [hs_17]; decide) (by rw [hs_17]; rfl) (by decide) ?_
      refine ge_aload_n (n := 638) C 2 rfl dL_law_637 rfl rfl ?_
      refine ge_aload_n (n := 639) C 3 rfl dL_law_638 rfl rfl ?_
      refine ge_iload_n (n := 640) C 0 rfl dL_law_639 rfl rfl ?_
      refine ge_iconst (v := 1) (n := 641) C dL_law_640 (by decide) rfl ?_
      refine ge_iadd (n := 642) C dL_law_641 rfl ?_
      refine ge_sld (n := 643) C X0 dL_law_642 rfl ?_
      refine ge_aload_n (n := 644) C 3 rfl dL_law_643 rfl rfl ?_
      refine ge_iload_n (n := 645) C 0 rfl dL_law_644 rfl rfl ?_
      refine ge_iconst (v := 2) (n := 646) C dL_law_645 (by decide) rfl ?_
      refine ge_iadd (n := 647) C dL_law_646 rfl ?_
      refine ge_sld (n := 648) C X0 dL_law_647 rfl ?_
      refine ge_aload_n (n := 649) C 3 rfl dL_law_648 rfl rfl ?_
      refine ge_iload_n (n := 650) C 0 rfl dL_law_649 rfl rfl ?_
      refine ge_iconst (v := 3) (n := 651) C dL_law_650 (by decide) rfl ?_
      refine ge_iadd (n := 652) C dL_law_651 rfl ?_
      refine ge_sld (n := 653) C X0 dL_law_652 rfl ?_
      refine ge_callVi (n := 656) C (mX10_when hj (xs (Int32.toNatClampNeg (x3_18 + (1 : Int32)))) (xs (Int32.toNatClampNeg (x3_18 + (2 : Int32)))) (xs (Int32.toNatClampNeg (x3_18 + (3 : Int32)))) S_18) gv_L_85 (cl_0 (by decide)) rfl rfl hc_X10_when ⟨Nat.le_of_ble_eq_true rfl, Nat.le_of_ble_eq_true rfl⟩ rfl rfl (Nat.le_of_ble_eq_true rfl) dL_law_653 rfl (fun r_653 S_653 => ?_)
      refine ge_aload_n (n := 657) C 1 rfl dL_law_656 rfl rfl ?_
      refine ge_aload_n (n := 658) C 3 rfl dL_law_657 rfl rfl ?_
      refine ge_iload_n (n := 659) C 0 rfl dL_law_658 rfl rfl ?_
      refine ge_iconst (v := 1) (n := 660) C dL_law_659 (by decide) rfl ?_
      refine ge_iadd (n := 661) C dL_law_660 rfl ?_
      refine ge_sld (n := 662) C X0 dL_law_661 rfl ?_
      refine ge_aload_n (n := 663) C 3 rfl dL_law_662 rfl rfl ?_
      refine ge_iload_n (n := 664) C 0 rfl dL_law_663 rfl rfl ?_
      refine ge_iconst (v := 2) (n := 665) C dL_law_664 (by decide) rfl ?_
      refine ge_iadd (n := 666) C dL_law_665 rfl ?_
      refine ge_sld (n := 667) C X0 dL_law_666 rfl ?_
      refine ge_aload_n (n := 668) C 3 rfl dL_law_667 rfl rfl ?_
      refine ge_iload_n (n := 669) C 0 rfl dL_law_668 rfl rfl ?_
      refine ge_iconst (v := 3) (n := 670) C dL_law_669 (by decide) rfl ?_
      refine ge_iadd (n := 671) C dL_law_670 rfl ?_
      refine ge_sld (n := 672) C X0 dL_law_671 rfl ?_
      refine ge_callVi (n := 675) C (mX11_when hj (xs (Int32.toNatClampNeg (x3_18 + (1 : Int32)))) (xs (Int32.toNatClampNeg (x3_18 + (2 : Int32)))) (xs (Int32.toNatClampNeg (x3_18 + (3 : Int32)))) S_653) gv_L_88 (cl_35 (by decide)) rfl rfl hc_X11_when ⟨Nat.le_of_ble_eq_true rfl, Nat.le_of_ble_eq_true rfl⟩ rfl rfl (Nat.le_of_ble_eq_true rfl) dL_law_672 rfl (fun r_672 S_672 => ?_)
      refine ge_icmp_eq (t := 1092) (n := 678) C dL_law_675 (by decide) rfl (fun h_675 => ?_) (fun h_675 => ?_)
      · refine ge_iinc (n := 1095) (v := (x3_18 + (5 : Int32))) (lv2 := [(3, .int (x3_18 + (5 : Int32))), (2, .ref (adr 35 0)), (1, .ref (adr 0 0)), (0, .ref b0)]) C 0 rfl dL_law_1092 rfl rfl (by decide) rfl ?_
        refine ge_goto (n := 18) C dL_law_1095 (by decide) ?_
        exact hag18 (x3_18 + (5 : Int32)) S_672
      · refine ge_iconst (v := 0) (n := 679) C dL_law_678 (by decide) rfl ?_
        exact ge_none
    refine ge_if (fun hs_18 => ?_) (fun hs_18 => ?_)
    · refine ge_tsIn (t := 680) C dL_law_32 (by rw [hs_18]; decide) (by rw [hs_18]; decide) (by rw [hs_18]; rfl) (by decide) ?_
      refine ge_aload_n (n := 681) C 2 rfl dL_law_680 rfl rfl ?_
      refine ge_aload_n (n := 682) C 3 rfl dL_law_681 rfl rfl ?_
      refine ge_iload_n (n := 683) C 0 rfl dL_law_682 rfl rfl ?_
      refine ge_iconst (v := 1) (n := 684) C dL_law_683 (by decide) rfl ?_
      refine ge_iadd (n := 685) C dL_law_684 rfl ?_
      refine ge_sld (n := 686) C X0 dL_law_685 rfl ?_
      refine ge_aload_n (n := 687) C 3 rfl dL_law_686 rfl rfl ?_
      refine ge_iload_n (n := 688) C 0 rfl dL_law_687 rfl rfl ?_
      refine ge_iconst (v := 2) (n := 689) C dL_law_688 (by decide) rfl ?_
      refine ge_iadd (n := 690) C dL_law_689 rfl ?_
      refine ge_sld (n := 691) C X0 dL_law_690 rfl ?_
      refine ge_aload_n (n := 692) C 3 rfl dL_law_691 rfl rfl ?_
      refine ge_iload_n (n := 693) C 0 rfl dL_law_692 rfl rfl ?_
      refine ge_iconst (v := 3) (n := 694) C dL_law_693 (by decide) rfl ?_
      refine ge_iadd (n := 695) C dL_law_694 rfl ?_
      refine ge_sld (n := 696) C X0 dL_law_695 rfl ?_
      refine ge_aload_n (n := 697) C 3 rfl dL_law_696 rfl rfl ?_
      refine ge_iload_n (n := 698) C 0 rfl dL_law_697 rfl rfl ?_
      refine ge_iconst (v := 4) (n := 699) C dL_law_698 (by decide) rfl ?_
      refine ge_iadd (n := 700) C dL_law_699 rfl ?_
      refine ge_sld (n := 701) C X0 dL_law_700 rfl ?_
      refine ge_callVi (n := 704) C (mX10_edge hj (xs (Int32.toNatClampNeg (x3_18 + (1 : Int32)))) (xs (Int32.toNatClampNeg (x3_18 + (2 : Int32)))) (xs (Int32.toNatClampNeg (x3_18 + (3 : Int32)))) (xs (Int32.toNatClampNeg (x3_18 + (4 : Int32)))) S_18) gv_L_89 (cl_0 (by decide)) rfl rfl hc_X10_edge ⟨Nat.le_of_ble_eq_true rfl, Nat.le_of_ble_eq_true rfl⟩ rfl rfl (Nat.le_of_ble_eq_true rfl) dL_law_701 rfl (fun r_701 S_701 => ?_)
      refine ge_aload_n (n := 705) C 1 rfl dL_law_704 rfl rfl ?_
      refine ge_aload_n (n := 706) C 3 rfl dL_law_705 rfl rfl ?_
      refine ge_iload_n (n := 707) C 0 rfl dL_law_706 rfl rfl ?_
      refine ge_iconst (v := 1) (n := 708) C dL_law_707 (by decide) rfl ?_
      refine ge_iadd (n := 709) C dL_law_708 rfl ?_
      refine ge_sld (n := 710) C X0 dL_law_709 rfl ?_
      refine ge_aload_n (n := 711) C 3 rfl dL_law_710 rfl rfl ?_
      refine ge_iload_n (n := 712) C 0 rfl dL_law_711 rfl rfl ?_
      refine ge_iconst (v := 2) (n := 713) C dL_law_712 (by decide) rfl ?_
      refine ge_iadd (n := 714) C dL_law_713 rfl ?_
      refine ge_sld (n := 715) C X0 dL_law_714 rfl ?_
      refine ge_aload_n (n := 716) C 3 rfl dL_law_715 rfl rfl ?_
      refine ge_iload_n (n := 717) C 0 rfl dL_law_716 rfl rfl ?_
      refine ge_iconst (v := 3) (n := 718) C dL_law_717 (by decide) rfl ?_
      refine ge_iadd (n := 719) C dL_law_718 rfl ?_
      refine ge_sld (n := 720) C X0 dL_law_719 rfl ?_
      refine ge_aload_n (n := 721) C 3 rfl dL_law_720 rfl rfl ?_
      refine ge_iload_n (n := 722) C 0 rfl dL_law_721 rfl rfl ?_
      refine ge_iconst (v := 4) (n := 723) C dL_law_722 (by decide) rfl ?_
      refine ge_iadd (n := 724) C dL_law_723 rfl ?_
      refine ge_sld (n := 725) C X0 dL_law_724 rfl ?_
      refine ge_callVi (n := 728) C (mX11_edge hj (xs (Int32.toNatClampNeg (x3_18 + (1 : Int32)))) (xs (Int32.toNatClampNeg (x3_18 + (2 : Int32)))) (xs (Int32.toNatClampNeg (x3_18 + (3 : Int32)))) (xs (Int32.toNatClampNeg (x3_18 + (4 : Int32)))) S_701) gv_L_93 (cl_35 (by decide)) rfl rfl hc_X11_edge ⟨Nat.le_of_ble_eq_true rfl, Nat.le_of_ble_eq_true rfl⟩ rfl rfl (Nat.le_of_ble_eq_true rfl) dL_law_725 rfl (fun r_725 S_725 => ?_)
      refine ge_icmp_eq (t := 1092) (n := 731) C dL_law_728 (by decide) rfl (fun h_728 => ?_) (fun h_728 => ?_)
      · refine ge_iinc (n := 1095) (v := (x3_18 + (5 : Int32))) (lv2 := [(3, .int (x3_18 + (5 : Int32))), (2, .ref (adr 35 0)), (1, .ref (adr 0 0)), (0, .ref b0)]) C 0 rfl dL_law_1092 rfl rfl (by decide) rfl ?_
        refine ge_goto (n := 18) C dL_law_1095 (by decide) ?_
        exact hag18 (x3_18 + (5 : Int32)) S_725
      · refine ge_iconst (v := 0) (n := 732) C dL_law_731 (by decide) rfl ?_
        exact ge_none
    refine ge_if (fun hs_19 => ?_) (fun hs_19 => ?_)
    · refine ge_tsIn (t := 733) C dL_law_32 (by rw [hs_19]; decide) (by rw [hs_19]; decide) (by rw [hs_19]; rfl) (by decide) ?_
      refine ge_aload_n (n := 734) C 2 rfl dL_law_733 rfl rfl ?_
      refine ge_aload_n (n := 735) C 3 rfl dL_law_734 rfl rfl ?_
      refine ge_iload_n (n := 736) C 0 rfl dL_law_735 rfl rfl ?_
      refine ge_iconst (v := 1) (n := 737) C dL_law_736 (by decide) rfl ?_
      refine ge_iadd (n := 738) C dL_law_737 rfl ?_
      refine ge_sld (n := 739) C X0 dL_law_738 rfl ?_
      refine ge_aload_n (n := 740) C 3 rfl dL_law_739 rfl rfl ?_
      refine ge_iload_n (n := 741) C 0 rfl dL_law_740 rfl rfl ?_
      refine ge_iconst (v := 2) (n := 742) C dL_law_741 (by decide) rfl ?_
      refine ge_iadd (n := 743) C dL_law_742 rfl ?_
      refine ge_sld (n := 744) C X0 dL_law_743 rfl ?_
      refine ge_callVi (n := 747) C (mX10_scraping hj (xs (Int32.toNatClampNeg (x3_18 + (1 : Int32)))) (xs (Int32.toNatClampNeg (x3_18 + (2 : Int32)))) S_18) gv_L_94 (cl_0 (by decide)) rfl rfl hc_X10_scraping ⟨Nat.le_of_ble_eq_true rfl, Nat.le_of_ble_eq_true rfl⟩ rfl rfl (Nat.le_of_ble_eq_true rfl) dL_law_744 rfl (fun r_744 S_744 => ?_)
      refine ge_aload_n (n := 748) C 1 rfl dL_law_747 rfl rfl ?_
      refine ge_aload_n (n := 749) C 3 rfl dL_law_748 rfl rfl ?_
      refine ge_iload_n (n := 750) C 0 rfl dL_law_749 rfl rfl ?_
      refine ge_iconst (v := 1) (n := 751) C dL_law_750 (by decide) rfl ?_
      refine ge_iadd (n := 752) C dL_law_751 rfl ?_
      refine ge_sld (n := 753) C X0 dL_law_752 rfl ?_
      refine ge_aload_n (n := 754) C 3 rfl dL_law_753 rfl rfl ?_
      refine ge_iload_n (n := 755) C 0 rfl dL_law_754 rfl rfl ?_
      refine ge_iconst (v := 2) (n := 756) C dL_law_755 (by decide) rfl ?_
      refine ge_iadd (n := 757) C dL_law_756 rfl ?_
      refine ge_sld (n := 758) C X0 dL_law_757 rfl ?_
      refine ge_callVi (n := 761) C (mX11_scraping hj (xs (Int32.toNatClampNeg (x3_18 + (1 : Int32)))) (xs (Int32.toNatClampNeg (x3_18 + (2 : Int32)))) S_744) gv_L_97 (cl_35 (by decide)) rfl rfl hc_X11_scraping ⟨Nat.le_of_ble_eq_true rfl, Nat.le_of_ble_eq_true rfl⟩ rfl rfl (Nat.le_of_ble_eq_true rfl) dL_law_758 rfl (fun r_758 S_758 => ?_)
      refine ge_icmp_eq (t := 1092) (n := 764) C dL_law_761 (by decide) rfl (fun h_761 => ?_) (fun h_761 => ?_)
      · refine ge_iinc (n := 1095) (v := (x3_18 + (5 : Int32))) (lv2 := [(3, .int (x3_18 + (5 : Int32))), (2, .ref (adr 35 0)), (1, .ref (adr 0 0)), (0, .ref b0)]) C 0 rfl dL_law_1092 rfl rfl (by decide) rfl ?_
        refine ge_goto (n := 18) C dL_law_1095 (by decide) ?_
        exact hag18 (x3_18 + (5 : Int32)) S_758
      · refine ge_iconst (v := 0) (n := 765) C dL_law_764 (by decide) rfl ?_
        exact ge_none
    refine ge_if (fun hs_20 => ?_) (fun hs_20 => ?_)
    · refine ge_tsIn (t := 766) C dL_law_32 (by rw [hs_20]; decide) (by rw [hs_20]; decide) (by rw [hs_20]; rfl) (by decide) ?_
      refine ge_aload_n (n := 767) C 2 rfl dL_law_766 rfl rfl ?_
      refine ge_aload_n (n := 768) C 3 rfl dL_law_767 rfl rfl ?_
      refine ge_iload_n (n := 769) C 0 rfl dL_law_768 rfl rfl ?_
      refine ge_iconst (v := 1) (n := 770) C dL_law_769 (by decide) rfl ?_
      refine ge_iadd (n := 771) C dL_law_770 rfl ?_
      refine ge_sld (n := 772) C X0 dL_law_771 rfl ?_
      refine ge_aload_n (n := 773) C 3 rfl dL_law_772 rfl rfl ?_
      refine ge_iload_n (n := 774) C 0 rfl dL_law_773 rfl rfl ?_
      refine ge_iconst (v := 2) (n := 775) C dL_law_774 (by decide) rfl ?_
      refine ge_iadd (n := 776) C dL_law_775 rfl ?_
      refine ge_sld (n := 777) C X0 dL_law_776 rfl ?_
      refine ge_callVi (n := 780) C (mX10_through hj (xs (Int32.toNatClampNeg (x3_18 + (1 : Int32)))) (xs (Int32.toNatClampNeg (x3_18 + (2 : Int32)))) S_18) gv_L_98 (cl_0 (by decide)) rfl rfl hc_X10_through ⟨Nat.le_of_ble_eq_true rfl, Nat.le_of_ble_eq_true rfl⟩ rfl rfl (Nat.le_of_ble_eq_true rfl) dL_law_777 rfl (fun r_777 S_777 => ?_)
      refine ge_aload_n (n := 781) C 1 rfl dL_law_780 rfl rfl ?_
      refine ge_aload_n (n := 782) C 3 rfl dL_law_781 rfl rfl ?_
      refine ge_iload_n (n := 783) C 0 rfl dL_law_782 rfl rfl ?_
      refine ge_iconst (v := 1) (n := 784) C dL_law_783 (by decide) rfl ?_
      refine ge_iadd (n := 785) C dL_law_784 rfl ?_
      refine ge_sld (n := 786) C X0 dL_law_785 rfl ?_
      refine ge_aload_n (n := 787) C 3 rfl dL_law_786 rfl rfl ?_
      refine ge_iload_n (n := 788) C 0 rfl dL_law_787 rfl rfl ?_
      refine ge_iconst (v := 2) (n := 789) C dL_law_788 (by decide) rfl ?_
      refine ge_iadd (n := 790) C dL_law_789 rfl ?_
      refine ge_sld (n := 791) C X0 dL_law_790 rfl ?_
      refine ge_callVi (n := 794) C (mX11_through hj (xs (Int32.toNatClampNeg (x3_18 + (1 : Int32)))) (xs (Int32.toNatClampNeg (x3_18 + (2 : Int32)))) S_777) gv_L_101 (cl_35 (by decide)) rfl rfl hc_X11_through ⟨Nat.le_of_ble_eq_true rfl, Nat.le_of_ble_eq_true rfl⟩ rfl rfl (Nat.le_of_ble_eq_true rfl) dL_law_791 rfl (fun r_791 S_791 => ?_)
      refine ge_icmp_eq (t := 1092) (n := 797) C dL_law_794 (by decide) rfl (fun h_794 => ?_) (fun h_794 => ?_)
      · refine ge_iinc (n := 1095) (v := (x3_18 + (5 : Int32))) (lv2 := [(3, .int (x3_18 + (5 : Int32))), (2, .ref (adr 35 0)), (1, .ref (adr 0 0)), (0, .ref b0)]) C 0 rfl dL_law_1092 rfl rfl (by decide) rfl ?_
        refine ge_goto (n := 18) C dL_law_1095 (by decide) ?_
        exact hag18 (x3_18 + (5 : Int32)) S_791
      · refine ge_iconst (v := 0) (n := 798) C dL_law_797 (by decide) rfl ?_
        exact ge_none
    refine ge_if (fun hs_21 => ?_) (fun hs_21 => ?_)
    · refine ge_tsIn (t := 799) C dL_law_32 (by rw [hs_21]; decide) (by rw [hs_21]; decide) (by rw [hs_21]; rfl) (by decide) ?_
      refine ge_aload_n (n := 800) C 2 rfl dL_law_799 rfl rfl ?_
      refine ge_aload_n (n := 801) C 3 rfl dL_law_800 rfl rfl ?_
      refine ge_iload_n (n := 802) C 0 rfl dL_law_801 rfl rfl ?_
      refine ge_iconst (v := 1) (n := 803) C dL_law_802 (by decide) rfl ?_
      refine ge_iadd (n := 804) C dL_law_803 rfl ?_
      refine ge_sld (n := 805) C X0 dL_law_804 rfl ?_
      refine ge_aload_n (n := 806) C 3 rfl dL_law_805 rfl rfl ?_
      refine ge_iload_n (n := 807) C 0 rfl dL_law_806 rfl rfl ?_
      refine ge_iconst (v := 2) (n := 808) C dL_law_807 (by decide) rfl ?_
      refine ge_iadd (n := 809) C dL_law_808 rfl ?_
      refine ge_sld (n := 810) C X0 dL_law_809 rfl ?_
      refine ge_callVi (n := 813) C (mX10_over hj (xs (Int32.toNatClampNeg (x3_18 + (1 : Int32)))) (xs (Int32.toNatClampNeg (x3_18 + (2 : Int32)))) S_18) gv_L_102 (cl_0 (by decide)) rfl rfl hc_X10_over ⟨Nat.le_of_ble_eq_true rfl, Nat.le_of_ble_eq_true rfl⟩ rfl rfl (Nat.le_of_ble_eq_true rfl) dL_law_810 rfl (fun r_810 S_810 => ?_)
      refine ge_aload_n (n := 814) C 1 rfl dL_law_813 rfl rfl ?_
      refine ge_aload_n (n := 815) C 3 rfl dL_law_814 rfl rfl ?_
      refine ge_iload_n (n := 816) C 0 rfl dL_law_815 rfl rfl ?_
      refine ge_iconst (v := 1) (n := 817) C dL_law_816 (by decide) rfl ?_
      refine ge_iadd (n := 818) C dL_law_817 rfl ?_
      refine ge_sld (n := 819) C X0 dL_law_818 rfl ?_
      refine ge_aload_n (n := 820) C 3 rfl dL_law_819 rfl rfl ?_
      refine ge_iload_n (n := 821) C 0 rfl dL_law_820 rfl rfl ?_
      refine ge_iconst (v := 2) (n := 822) C dL_law_821 (by decide) rfl ?_
      refine ge_iadd (n := 823) C dL_law_822 rfl ?_
      refine ge_sld (n := 824) C X0 dL_law_823 rfl ?_
      refine ge_callVi (n := 827) C (mX11_over hj (xs (Int32.toNatClampNeg (x3_18 + (1 : Int32)))) (xs (Int32.toNatClampNeg (x3_18 + (2 : Int32)))) S_810) gv_L_105 (cl_35 (by decide)) rfl rfl hc_X11_over ⟨Nat.le_of_ble_eq_true rfl, Nat.le_of_ble_eq_true rfl⟩ rfl rfl (Nat.le_of_ble_eq_true rfl) dL_law_824 rfl (fun r_824 S_824 => ?_)
      refine ge_icmp_eq (t := 1092) (n := 830) C dL_law_827 (by decide) rfl (fun h_827 => ?_) (fun h_827 => ?_)
      · refine ge_iinc (n := 1095) (v := (x3_18 + (5 : Int32))) (lv2 := [(3, .int (x3_18 + (5 : Int32))), (2, .ref (adr 35 0)), (1, .ref (adr 0 0)), (0, .ref b0)]) C 0 rfl dL_law_1092 rfl rfl (by decide) rfl ?_
        refine ge_goto (n := 18) C dL_law_1095 (by decide) ?_
        exact hag18 (x3_18 + (5 : Int32)) S_824
      · refine ge_iconst (v := 0) (n := 831) C dL_law_830 (by decide) rfl ?_
        exact ge_none
    refine ge_if (fun hs_22 => ?_) (fun hs_22 => ?_)
    · refine ge_tsIn (t := 832) C dL_law_32 (by rw [hs_22]; decide) (by rw [hs_22]; decide) (by rw [hs_22]; rfl) (by decide) ?_
      refine ge_aload_n (n := 833) C 2 rfl dL_law_832 rfl rfl ?_
      refine ge_aload_n (n := 834) C 3 rfl dL_law_833 rfl rfl ?_
      refine ge_iload_n (n := 835) C 0 rfl dL_law_834 rfl rfl ?_
      refine ge_iconst (v := 1) (n := 836) C dL_law_835 (by decide) rfl ?_
      refine ge_iadd (n := 837) C dL_law_836 rfl ?_
      refine ge_sld (n := 838) C X0 dL_law_837 rfl ?_
      refine ge_aload_n (n := 839) C 3 rfl dL_law_838 rfl rfl ?_
      refine ge_iload_n (n := 840) C 0 rfl dL_law_839 rfl rfl ?_
      refine ge_iconst (v := 2) (n := 841) C dL_law_840 (by decide) rfl ?_
      refine ge_iadd (n := 842) C dL_law_841 rfl ?_
      refine ge_sld (n := 843) C X0 dL_law_842 rfl ?_
      refine ge_callVi (n := 846) C (mX10_quiet hj (xs (Int32.toNatClampNeg (x3_18 + (1 : Int32)))) (xs (Int32.toNatClampNeg (x3_18 + (2 : Int32)))) S_18) gv_L_106 (cl_0 (by decide)) rfl rfl hc_X10_quiet ⟨Nat.le_of_ble_eq_true rfl, Nat.le_of_ble_eq_true rfl⟩ rfl rfl (Nat.le_of_ble_eq_true rfl) dL_law_843 rfl (fun r_843 S_843 => ?_)
      refine ge_aload_n (n := 847) C 1 rfl dL_law_846 rfl rfl ?_
      refine ge_aload_n (n := 848) C 3 rfl dL_law_847 rfl rfl ?_
      refine ge_iload_n (n := 849) C 0 rfl dL_law_848 rfl rfl ?_
      refine ge_iconst (v := 1) (n := 850) C dL_law_849 (by decide) rfl ?_
      refine ge_iadd (n := 851) C dL_law_850 rfl ?_
      refine ge_sld (n := 852) C X0 dL_law_851 rfl ?_
      refine ge_aload_n (n := 853) C 3 rfl dL_law_852 rfl rfl ?_
      refine ge_iload_n (n := 854) C 0 rfl dL_law_853 rfl rfl ?_
      refine ge_iconst (v := 2) (n := 855) C dL_law_854 (by decide) rfl ?_
      refine ge_iadd (n := 856) C dL_law_855 rfl ?_
      refine ge_sld (n := 857) C X0 dL_law_856 rfl ?_
      refine ge_callVi (n := 860) C (mX11_quiet hj (xs (Int32.toNatClampNeg (x3_18 + (1 : Int32)))) (xs (Int32.toNatClampNeg (x3_18 + (2 : Int32)))) S_843) gv_L_109 (cl_35 (by decide)) rfl rfl hc_X11_quiet ⟨Nat.le_of_ble_eq_true rfl, Nat.le_of_ble_eq_true rfl⟩ rfl rfl (Nat.le_of_ble_eq_true rfl) dL_law_857 rfl (fun r_857 S_857 => ?_)
      refine ge_icmp_eq (t := 1092) (n := 863) C dL_law_860 (by decide) rfl (fun h_860 => ?_) (fun h_860 => ?_)
      · refine ge_iinc (n := 1095) (v := (x3_18 + (5 : Int32))) (lv2 := [(3, .int (x3_18 + (5 : Int32))), (2, .ref (adr 35 0)), (1, .ref (adr 0 0)), (0, .ref b0)]) C 0 rfl dL_law_1092 rfl rfl (by decide) rfl ?_
        refine ge_goto (n := 18) C dL_law_1095 (by decide) ?_
        exact hag18 (x3_18 + (5 : Int32)) S_857
      · refine ge_iconst (v := 0) (n := 864) C dL_law_863 (by decide) rfl ?_
        exact ge_none
    refine ge_if (fun hs_23 => ?_) (fun hs_23 => ?_)
    · refine ge_tsIn (t := 865) C dL_law_32 (by rw [hs_23]; decide) (by rw [hs_23]; decide) (by rw [hs_23]; rfl) (by decide) ?_
      refine ge_aload_n (n := 866) C 2 rfl dL_law_865 rfl rfl ?_
      refine ge_aload_n (n := 867) C 3 rfl dL_law_866 rfl rfl ?_
      refine ge_iload_n (n := 868) C 0 rfl dL_law_867 rfl rfl ?_
      refine ge_iconst (v := 1) (n := 869) C dL_law_868 (by decide) rfl ?_
      refine ge_iadd (n := 870) C dL_law_869 rfl ?_
      refine ge_sld (n := 871) C X0 dL_law_870 rfl ?_
      refine ge_aload_n (n := 872) C 3 rfl dL_law_871 rfl rfl ?_
      refine ge_iload_n (n := 873) C 0 rfl dL_law_872 rfl rfl ?_
      refine ge_iconst (v := 2) (n := 874) C dL_law_873 (by decide) rfl ?_
      refine ge_iadd (n := 875) C dL_law_874 rfl ?_
      refine ge_sld (n := 876) C X0 dL_law_875 rfl ?_
      refine ge_aload_n (n := 877) C 3 rfl dL_law_876 rfl rfl ?_
      refine ge_iload_n (n := 878) C 0 rfl dL_law_877 rfl rfl ?_
      refine ge_iconst (v := 3) (n := 879) C dL_law_878 (by decide) rfl ?_
      refine ge_iadd (n := 880) C dL_law_879 rfl ?_
      refine ge_sld (n := 881) C X0 dL_law_880 rfl ?_
      refine ge_callVi (n := 884) C (mX10_hear hj (xs (Int32.toNatClampNeg (x3_18 + (1 : Int32)))) (xs (Int32.toNatClampNeg (x3_18 + (2 : Int32)))) (xs (Int32.toNatClampNeg (x3_18 + (3 : Int32)))) S_18) gv_L_110 (cl_0 (by decide)) rfl rfl hc_X10_hear ⟨Nat.le_of_ble_eq_true rfl, Nat.le_of_ble_eq_true rfl⟩ rfl rfl (Nat.le_of_ble_eq_true rfl) dL_law_881 rfl (fun r_881 S_881 => ?_)
      refine ge_aload_n (n := 885) C 1 rfl dL_law_884 rfl rfl ?_
      refine ge_aload_n (n := 886) C 3 rfl dL_law_885 rfl rfl ?_
      refine ge_iload_n (n := 887) C 0 rfl dL_law_886 rfl rfl ?_
      refine ge_iconst (v := 1) (n := 888) C dL_law_887 (by decide) rfl ?_
      refine ge_iadd (n := 889) C dL_law_888 rfl ?_
      refine ge_sld (n := 890) C X0 dL_law_889 rfl ?_
      refine ge_aload_n (n := 891) C 3 rfl dL_law_890 rfl rfl ?_
      refine ge_iload_n (n := 892) C 0 rfl dL_law_891 rfl rfl ?_
      refine ge_iconst (v := 2) (n := 893) C dL_law_892 (by decide) rfl ?_
      refine ge_iadd (n := 894) C dL_law_893 rfl ?_
      refine ge_sld (n := 895) C X0 dL_law_894 rfl ?_
      refine ge_aload_n (n := 896) C 3 rfl dL_law_895 rfl rfl ?_
      refine ge_iload_n (n := 897) C 0 rfl dL_law_896 rfl rfl ?_
      refine ge_iconst (v := 3) (n := 898) C dL_law_897 (by decide) rfl ?_
      refine ge_iadd (n := 899) C dL_law_898 rfl ?_
      refine ge_sld (n := 900) C X0 dL_law_899 rfl ?_
      refine ge_callVi (n := 903) C (mX11_hear hj (xs (Int32.toNatClampNeg (x3_18 + (1 : Int32)))) (xs (Int32.toNatClampNeg (x3_18 + (2 : Int32)))) (xs (Int32.toNatClampNeg (x3_18 + (3 : Int32)))) S_881) gv_L_113 (cl_35 (by decide)) rfl rfl hc_X11_hear ⟨Nat.le_of_ble_eq_true rfl, Nat.le_of_ble_eq_true rfl⟩ rfl rfl (Nat.le_of_ble_eq_true rfl) dL_law_900 rfl (fun r_900 S_900 => ?_)
      refine ge_icmp_eq (t := 1092) (n := 906) C dL_law_903 (by decide) rfl (fun h_903 => ?_) (fun h_903 => ?_)
      · refine ge_iinc (n := 1095) (v := (x3_18 + (5 : Int32))) (lv2 := [(3, .int (x3_18 + (5 : Int32))), (2, .ref (adr 35 0)), (1, .ref (adr 0 0)), (0, .ref b0)]) C 0 rfl dL_law_1092 rfl rfl (by decide) rfl ?_
        refine ge_goto (n := 18) C dL_law_1095 (by decide) ?_
        exact hag18 (x3_18 + (5 : Int32)) S_900
      · refine ge_iconst (v := 0) (n := 907) C dL_law_906 (by decide) rfl ?_
        exact ge_none
    refine ge_if (fun hs_24 => ?_) (fun hs_24 => ?_)
    · refine ge_tsIn (t := 908) C dL_law_32 (by rw [hs_24]; decide) (by rw [hs_24]; decide) (by rw [hs_24]; rfl) (by decide) ?_
      refine ge_aload_n (n := 909) C 2 rfl dL_law_908 rfl rfl ?_
      refine ge_aload_n (n := 910) C 3 rfl dL_law_909 rfl rfl ?_
      refine ge_iload_n (n := 911) C 0 rfl dL_law_910 rfl rfl ?_
      refine ge_iconst (v := 1) (n := 912) C dL_law_911 (by decide) rfl ?_
      refine ge_iadd (n := 913) C dL_law_912 rfl ?_
      refine ge_sld (n := 914) C X0 dL_law_913 rfl ?_
      refine ge_aload_n (n := 915) C 3 rfl dL_law_914 rfl rfl ?_
      refine ge_iload_n (n := 916) C 0 rfl dL_law_915 rfl rfl ?_
      refine ge_iconst (v := 2) (n := 917) C dL_law_916 (by decide) rfl ?_
      refine ge_iadd (n := 918) C dL_law_917 rfl ?_
      refine ge_sld (n := 919) C X0 dL_law_918 rfl ?_
      refine ge_callVi (n := 922) C (mX10_stays hj (xs (Int32.toNatClampNeg (x3_18 + (1 : Int32)))) (xs (Int32.toNatClampNeg (x3_18 + (2 : Int32)))) S_18) gv_L_114 (cl_0 (by decide)) rfl rfl hc_X10_stays ⟨Nat.le_of_ble_eq_true rfl, Nat.le_of_ble_eq_true rfl⟩ rfl rfl (Nat.le_of_ble_eq_true rfl) dL_law_919 rfl (fun r_919 S_919 => ?_)
      refine ge_aload_n (n := 923) C 1 rfl dL_law_922 rfl rfl ?_
      refine ge_aload_n (n := 924) C 3 rfl dL_law_923 rfl rfl ?_
      refine ge_iload_n (n := 925) C 0 rfl dL_law_924 rfl rfl ?_
      refine ge_iconst (v := 1) (n := 926) C dL_law_925 (by decide) rfl ?_
      refine ge_iadd (n := 927) C dL_law_926 rfl ?_
      refine ge_sld (n := 928) C X0 dL_law_927 rfl ?_
      refine ge_aload_n (n := 929) C 3 rfl dL_law_928 rfl rfl ?_
      refine ge_iload_n (n := 930) C 0 rfl dL_law_929 rfl rfl ?_
      refine ge_iconst (v := 2) (n := 931) C dL_law_930 (by decide) rfl ?_
      refine ge_iadd (n := 932) C dL_law_931 rfl ?_
      refine ge_sld (n := 933) C X0 dL_law_932 rfl ?_
      refine ge_callVi (n := 936) C (mX11_stays hj (xs (Int32.toNatClampNeg (x3_18 + (1 : Int32)))) (xs (Int32.toNatClampNeg (x3_18 + (2 : Int32)))) S_919) gv_L_117 (cl_35 (by decide)) rfl rfl hc_X11_stays ⟨Nat.le_of_ble_eq_true rfl, Nat.le_of_ble_eq_true rfl⟩ rfl rfl (Nat.le_of_ble_eq_true rfl) dL_law_933 rfl (fun r_933 S_933 => ?_)
      refine ge_icmp_eq (t := 1092) (n := 939) C dL_law_936 (by decide) rfl (fun h_936 => ?_) (fun h_936 => ?_)
      · refine ge_iinc (n := 1095) (v := (x3_18 + (5 : Int32))) (lv2 := [(3, .int (x3_18 + (5 : Int32))), (2, .ref (adr 35 0)), (1, .ref (adr 0 0)), (0, .ref b0)]) C 0 rfl dL_law_1092 rfl rfl (by decide) rfl ?_
        refine ge_goto (n := 18) C dL_law_1095 (by decide) ?_
        exact hag18 (x3_18 + (5 : Int32)) S_933
      · refine ge_iconst (v := 0) (n := 940) C dL_law_939 (by decide) rfl ?_
        exact ge_none
    refine ge_if (fun hs_25 => ?_) (fun hs_25 => ?_)
    · refine ge_tsIn (t := 941) C dL_law_32 (by rw [hs_25]; decide) (by rw [hs_25]; decide) (by rw [hs_25]; rfl) (by decide) ?_
      refine ge_aload_n (n := 942) C 2 rfl dL_law_941 rfl rfl ?_
      refine ge_aload_n (n := 943) C 3 rfl dL_law_942 rfl rfl ?_
      refine ge_iload_n (n := 944) C 0 rfl dL_law_943 rfl rfl ?_
      refine ge_iconst (v := 1) (n := 945) C dL_law_944 (by decide) rfl ?_
      refine ge_iadd (n := 946) C dL_law_945 rfl ?_
      refine ge_sld (n := 947) C X0 dL_law_946 rfl ?_
      refine ge_callVi (n := 950) C (mX10_ask hj (xs (Int32.toNatClampNeg (x3_18 + (1 : Int32)))) S_18) gv_L_118 (cl_0 (by decide)) rfl rfl hc_X10_ask ⟨Nat.le_of_ble_eq_true rfl, Nat.le_of_ble_eq_true rfl⟩ rfl rfl (Nat.le_of_ble_eq_true rfl) dL_law_947 rfl (fun r_947 S_947 => ?_)
      refine ge_aload_n (n := 951) C 1 rfl dL_law_950 rfl rfl ?_
      refine ge_aload_n (n := 952) C 3 rfl dL_law_951 rfl rfl ?_
      refine ge_iload_n (n := 953) C 0 rfl dL_law_952 rfl rfl ?_
      refine ge_iconst (v := 1) (n := 954) C dL_law_953 (by decide) rfl ?_
      refine ge_iadd (n := 955) C dL_law_954 rfl ?_
      refine ge_sld (n := 956) C X0 dL_law_955 rfl ?_
      refine ge_callVi (n := 959) C (mX11_ask hj (xs (Int32.toNatClampNeg (x3_18 + (1 : Int32)))) S_947) gv_L_121 (cl_35 (by decide)) rfl rfl hc_X11_ask ⟨Nat.le_of_ble_eq_true rfl, Nat.le_of_ble_eq_true rfl⟩ rfl rfl (Nat.le_of_ble_eq_true rfl) dL_law_956 rfl (fun r_956 S_956 => ?_)
      refine ge_icmp_eq (t := 1092) (n := 962) C dL_law_959 (by decide) rfl (fun h_959 => ?_) (fun h_959 => ?_)
      · refine ge_iinc (n := 1095) (v := (x3_18 + (5 : Int32))) (lv2 := [(3, .int (x3_18 + (5 : Int32))), (2, .ref (adr 35 0)), (1, .ref (adr 0 0)), (0, .ref b0)]) C 0 rfl dL_law_1092 rfl rfl (by decide) rfl ?_
        refine ge_goto (n := 18) C dL_law_1095 (by decide) ?_
        exact hag18 (x3_18 + (5 : Int32)) S_956
      · refine ge_iconst (v := 0) (n := 963) C dL_law_962 (by decide) rfl ?_
        exact ge_none
    refine ge_if (fun hs_26 => ?_) (fun hs_26 => ?_)
    · refine ge_tsIn (t := 964) C dL_law_32 (by rw [hs_26]; decide) (by rw [hs_26]; decide) (by rw [hs_26]; rfl) (by decide) ?_
      refine ge_aload_n (n := 965) C 2 rfl dL_law_964 rfl rfl ?_
      refine ge_aload_n (n := 966) C 3 rfl dL_law_965 rfl rfl ?_
      refine ge_iload_n (n := 967) C 0 rfl dL_law_966 rfl rfl ?_
      refine ge_iconst (v := 1) (n := 968) C dL_law_967 (by decide) rfl ?_
      refine ge_iadd (n := 969) C dL_law_968 rfl ?_
      refine ge_sld (n := 970) C X0 dL_law_969 rfl ?_
      refine ge_aload_n (n := 971) C 3 rfl dL_law_970 rfl rfl ?_
      refine ge_iload_n (n := 972) C 0 rfl dL_law_971 rfl rfl ?_
      refine ge_iconst (v := 2) (n := 973) C dL_law_972 (by decide) rfl ?_
      refine ge_iadd (n := 974) C dL_law_973 rfl ?_
      refine ge_sld (n := 975) C X0 dL_law_974 rfl ?_
      refine ge_callVi (n := 978) C (mX10_write hj (xs (Int32.toNatClampNeg (x3_18 + (1 : Int32)))) (xs (Int32.toNatClampNeg (x3_18 + (2 : Int32)))) S_18) gv_L_122 (cl_0 (by decide)) rfl rfl hc_X10_write ⟨Nat.le_of_ble_eq_true rfl, Nat.le_of_ble_eq_true rfl⟩ rfl rfl (Nat.le_of_ble_eq_true rfl) dL_law_975 rfl (fun r_975 S_975 => ?_)
      refine ge_aload_n (n := 979) C 1 rfl dL_law_978 rfl rfl ?_
      refine ge_aload_n (n := 980) C 3 rfl dL_law_979 rfl rfl ?_
      refine ge_iload_n (n := 981) C 0 rfl dL_law_980 rfl rfl ?_
      refine ge_iconst (v := 1) (n := 982) C dL_law_981 (by decide) rfl ?_
      refine ge_iadd (n := 983) C dL_law_982 rfl ?_
      refine ge_sld (n := 984) C X0 dL_law_983 rfl ?_
      refine ge_aload_n (n := 985) C 3 rfl dL_law_984 rfl rfl ?_
      refine ge_iload_n (n := 986) C 0 rfl dL_law_985 rfl rfl ?_
      refine ge_iconst (v := 2) (n := 987) C dL_law_986 (by decide) rfl ?_
      refine ge_iadd (n := 988) C dL_law_987 rfl ?_
      refine ge_sld (n := 989) C X0 dL_law_988 rfl ?_
      refine ge_callVi (n := 992) C (mX11_write hj (xs (Int32.toNatClampNeg (x3_18 + (1 : Int32)))) (xs (Int32.toNatClampNeg (x3_18 + (2 : Int32)))) S_975) gv_L_125 (cl_35 (by decide)) rfl rfl hc_X11_write ⟨Nat.le_of_ble_eq_true rfl, Nat.le_of_ble_eq_true rfl⟩ rfl rfl (Nat.le_of_ble_eq_true rfl) dL_law_989 rfl (fun r_989 S_989 => ?_)
      refine ge_icmp_eq (t := 1092) (n := 995) C dL_law_992 (by decide) rfl (fun h_992 => ?_) (fun h_992 => ?_)
      · refine ge_iinc (n := 1095) (v := (x3_18 + (5 : Int32))) (lv2 := [(3, .int (x3_18 + (5 : Int32))), (2, .ref (adr 35 0)), (1, .ref (adr 0 0)), (0, .ref b0)]) C 0 rfl dL_law_1092 rfl rfl (by decide) rfl ?_
        refine ge_goto (n := 18) C dL_law_1095 (by decide) ?_
        exact hag18 (x3_18 + (5 : Int32)) S_989
      · refine ge_iconst (v := 0) (n := 996) C dL_law_995 (by decide) rfl ?_
        exact ge_none
    refine ge_if (fun hs_27 => ?_) (fun hs_27 => ?_)
    · refine ge_tsIn (t := 997) C dL_law_32 (by rw [hs_27]; decide) (by rw [hs_27]; decide) (by rw [hs_27]; rfl) (by decide) ?_
      refine ge_aload_n (n := 998) C 2 rfl dL_law_997 rfl rfl ?_
      refine ge_callVi (n := 1001) C (mX10_tear hj S_18) gv_L_126 (cl_0 (by decide)) rfl rfl hc_X10_tear ⟨Nat.le_of_ble_eq_true rfl, Nat.le_of_ble_eq_true rfl⟩ rfl rfl (Nat.le_of_ble_eq_true rfl) dL_law_998 rfl (fun r_998 S_998 => ?_)
      refine ge_aload_n (n := 1002) C 1 rfl dL_law_1001 rfl rfl ?_
      refine ge_callVi (n := 1005) C (mX11_tear hj S_998) gv_L_129 (cl_35 (by decide)) rfl rfl hc_X11_tear ⟨Nat.le_of_ble_eq_true rfl, Nat.le_of_ble_eq_true rfl⟩ rfl rfl (Nat.le_of_ble_eq_true rfl) dL_law_1002 rfl (fun r_1002 S_1002 => ?_)
      refine ge_icmp_eq (t := 1092) (n := 1008) C dL_law_1005 (by decide) rfl (fun h_1005 => ?_) (fun h_1005 => ?_)
      · refine ge_iinc (n := 1095) (v := (x3_18 + (5 : Int32))) (lv2 := [(3, .int (x3_18 + (5 : Int32))), (2, .ref (adr 35 0)), (1, .ref (adr 0 0)), (0, .ref b0)]) C 0 rfl dL_law_1092 rfl rfl (by decide) rfl ?_
        refine ge_goto (n := 18) C dL_law_1095 (by decide) ?_
        exact hag18 (x3_18 + (5 : Int32)) S_1002
      · refine ge_iconst (v := 0) (n := 1009) C dL_law_1008 (by decide) rfl ?_
        exact ge_none
    refine ge_if (fun hs_28 => ?_) (fun hs_28 => ?_)
    · refine ge_tsIn (t := 1010) C dL_law_32 (by rw [hs_28]; decide) (by rw [hs_28]; decide) (by rw [hs_28]; rfl) (by decide) ?_
      refine ge_aload_n (n := 1011) C 2 rfl dL_law_1010 rfl rfl ?_
      refine ge_callVi (n := 1014) C (mX10_judge hj S_18) gv_L_130 (cl_0 (by decide)) rfl rfl hc_X10_judge ⟨Nat.le_of_ble_eq_true rfl, Nat.le_of_ble_eq_true rfl⟩ rfl rfl (Nat.le_of_ble_eq_true rfl) dL_law_1011 rfl (fun r_1011 S_1011 => ?_)
      refine ge_aload_n (n := 1015) C 1 rfl dL_law_1014 rfl rfl ?_
      refine ge_callVi (n := 1018) C (mX11_judge hj S_1011) gv_L_133 (cl_35 (by decide)) rfl rfl hc_X11_judge ⟨Nat.le_of_ble_eq_true rfl, Nat.le_of_ble_eq_true rfl⟩ rfl rfl (Nat.le_of_ble_eq_true rfl) dL_law_1015 rfl (fun r_1015 S_1015 => ?_)
      refine ge_icmp_eq (t := 1092) (n := 1021) C dL_law_1018 (by decide) rfl (fun h_1018 => ?_) (fun h_1018 => ?_)
      · refine ge_iinc (n := 1095) (v := (x3_18 + (5 : Int32))) (lv2 := [(3, .int (x3_18 + (5 : Int32))), (2, .ref (adr 35 0)), (1, .ref (adr 0 0)), (0, .ref b0)]) C 0 rfl dL_law_1092 rfl rfl (by decide) rfl ?_
        refine ge_goto (n := 18) C dL_law_1095 (by decide) ?_
        exact hag18 (x3_18 + (5 : Int32)) S_1015
      · refine ge_iconst (v := 0) (n := 1022) C dL_law_1021 (by decide) rfl ?_
        exact ge_none
    refine ge_if (fun hs_29 => ?_) (fun hs_29 => ?_)
    · refine ge_tsIn (t := 1023) C dL_law_32 (by rw [hs_29]; decide) (by rw [hs_29]; decide) (by rw [hs_29]; rfl) (by decide) ?_
      refine ge_aload_n (n := 1024) C 2 rfl dL_law_1023 rfl rfl ?_
      refine ge_aload_n (n := 1025) C 3 rfl dL_law_1024 rfl rfl ?_
      refine ge_iload_n (n := 1026) C 0 rfl dL_law_1025 rfl rfl ?_
      refine ge_iconst (v := 1) (n := 1027) C dL_law_1026 (by decide) rfl ?_
      refine ge_iadd (n := 1028) C dL_law_1027 rfl ?_
      refine ge_sld (n := 1029) C X0 dL_law_1028 rfl ?_
      refine ge_callVi (n := 1032) C (mX10_seed hj (xs (Int32.toNatClampNeg (x3_18 + (1 : Int32)))) S_18) gv_L_134 (cl_0 (by decide)) rfl rfl hc_X10_seed ⟨Nat.le_of_ble_eq_true rfl, Nat.le_of_ble_eq_true rfl⟩ rfl rfl (Nat.le_of_ble_eq_true rfl) dL_law_1029 rfl (fun r_1029 S_1029 => ?_)
      refine ge_aload_n (n := 1033) C 1 rfl dL_law_1032 rfl rfl ?_
      refine ge_aload_n (n := 1034) C 3 rfl dL_law_1033 rfl rfl ?_
      refine ge_iload_n (n := 1035) C 0 rfl dL_law_1034 rfl rfl ?_
      refine ge_iconst (v := 1) (n := 1036) C dL_law_1035 (by decide) rfl ?_
      refine ge_iadd (n := 1037) C dL_law_1036 rfl ?_
      refine ge_sld (n := 1038) C X0 dL_law_1037 rfl ?_
      refine ge_callVi (n := 1041) C (mX11_seed hj (xs (Int32.toNatClampNeg (x3_18 + (1 : Int32)))) S_1029) gv_L_137 (cl_35 (by decide)) rfl rfl hc_X11_seed ⟨Nat.le_of_ble_eq_true rfl, Nat.le_of_ble_eq_true rfl⟩ rfl rfl (Nat.le_of_ble_eq_true rfl) dL_law_1038 rfl (fun r_1038 S_1038 => ?_)
      refine ge_icmp_eq (t := 1092) (n := 1044) C dL_law_1041 (by decide) rfl (fun h_1041 => ?_) (fun h_1041 => ?_)
      · refine ge_iinc (n := 1095) (v := (x3_18 + (5 : Int32))) (lv2 := [(3, .int (x3_18 + (5 : Int32))), (2, .ref (adr 35 0)), (1, .ref (adr 0 0)), (0, .ref b0)]) C 0 rfl dL_law_1092 rfl rfl (by decide) rfl ?_
        refine ge_goto (n := 18) C dL_law_1095 (by decide) ?_
        exact hag18 (x3_18 + (5 : Int32)) S_1038
      · refine ge_iconst (v := 0) (n := 1045) C dL_law_1044 (by decide) rfl ?_
        exact ge_none
    refine ge_if (fun hs_30 => ?_) (fun hs_30 => ?_)
    · refine ge_tsIn (t := 1046) C dL_law_32 (by rw [hs_30]; decide) (by rw [hs_30]; decide) (by rw [hs_30]; rfl) (by decide) ?_
      refine ge_aload_n (n := 1047) C 2 rfl dL_law_1046 rfl rfl ?_
      refine ge_aload_n (n := 1048) C 3 rfl dL_law_1047 rfl rfl ?_
      refine ge_iload_n (n := 1049) C 0 rfl dL_law_1048 rfl rfl ?_
      refine ge_iconst (v := 1) (n := 1050) C dL_law_1049 (by decide) rfl ?_
      refine ge_iadd (n := 1051) C dL_law_1050 rfl ?_
      refine ge_sld (n := 1052) C X0 dL_law_1051 rfl ?_
      refine ge_callVi (n := 1055) C (mX10_keep hj (xs (Int32.toNatClampNeg (x3_18 + (1 : Int32)))) S_18) gv_L_138 (cl_0 (by decide)) rfl rfl hc_X10_keep ⟨Nat.le_of_ble_eq_true rfl, Nat.le_of_ble_eq_true rfl⟩ rfl rfl (Nat.le_of_ble_eq_true rfl) dL_law_1052 rfl (fun r_1052 S_1052 => ?_)
      refine ge_aload_n (n := 1056) C 1 rfl dL_law_1055 rfl rfl ?_
      refine ge_aload_n (n := 1057) C 3 rfl dL_law_1056 rfl rfl ?_
      refine ge_iload_n (n := 1058) C 0 rfl dL_law_1057 rfl rfl ?_
      refine ge_iconst (v := 1) (n := 1059) C dL_law_1058 (by decide) rfl ?_
      refine ge_iadd (n := 1060) C dL_law_1059 rfl ?_
      refine ge_sld (n := 1061) C X0 dL_law_1060 rfl ?_
      refine ge_callVi (n := 1064) C (mX11_keep hj (xs (Int32.toNatClampNeg (x3_18 + (1 : Int32)))) S_1052) gv_L_141 (cl_35 (by decide)) rfl rfl hc_X11_keep ⟨Nat.le_of_ble_eq_true rfl, Nat.le_of_ble_eq_true rfl⟩ rfl rfl (Nat.le_of_ble_eq_true rfl) dL_law_1061 rfl (fun r_1061 S_1061 => ?_)
      refine ge_icmp_eq (t := 1092) (n := 1067) C dL_law_1064 (by decide) rfl (fun h_1064 => ?_) (fun h_1064 => ?_)
      · refine ge_iinc (n := 1095) (v := (x3_18 + (5 : Int32))) (lv2 := [(3, .int (x3_18 + (5 : Int32))), (2, .ref (adr 35 0)), (1, .ref (adr 0 0)), (0, .ref b0)]) C 0 rfl dL_law_1092 rfl rfl (by decide) rfl ?_
        refine ge_goto (n := 18) C dL_law_1095 (by decide) ?_
        exact hag18 (x3_18 + (5 : Int32)) S_1061
      · refine ge_iconst (v := 0) (n := 1068) C dL_law_1067 (by decide) rfl ?_
        exact ge_none
    refine ge_if (fun hs_31 => ?_) (fun hs_31 => ?_)
    · refine ge_tsIn (t := 1069) C dL_law_32 (by rw [hs_31]; decide) (by rw [hs_31]; decide) (by rw [hs_31]; rfl) (by decide) ?_
      refine ge_aload_n (n := 1070) C 2 rfl dL_law_1069 rfl rfl ?_
      refine ge_aload_n (n := 1071) C 3 rfl dL_law_1070 rfl rfl ?_
      refine ge_iload_n (n := 1072) C 0 rfl dL_law_1071 rfl rfl ?_
      refine ge_iconst (v := 1) (n := 1073) C dL_law_1072 (by decide) rfl ?_
      refine ge_iadd (n := 1074) C dL_law_1073 rfl ?_
      refine ge_sld (n := 1075) C X0 dL_law_1074 rfl ?_
      refine ge_callVi (n := 1078) C (mX10_goBack hj (xs (Int32.toNatClampNeg (x3_18 + (1 : Int32)))) S_18) gv_L_142 (cl_0 (by decide)) rfl rfl hc_X10_goBack ⟨Nat.le_of_ble_eq_true rfl, Nat.le_of_ble_eq_true rfl⟩ rfl rfl (Nat.le_of_ble_eq_true rfl) dL_law_1075 rfl (fun r_1075 S_1075 => ?_)
      refine ge_aload_n (n := 1079) C 1 rfl dL_law_1078 rfl rfl ?_
      refine ge_aload_n (n := 1080) C 3 rfl dL_law_1079 rfl rfl ?_
      refine ge_iload_n (n := 1081) C 0 rfl dL_law_1080 rfl rfl ?_
      refine ge_iconst (v := 1) (n := 1082) C dL_law_1081 (by decide) rfl ?_
      refine ge_iadd (n := 1083) C dL_law_1082 rfl ?_
      refine ge_sld (n := 1084) C X0 dL_law_1083 rfl ?_
      refine ge_callVi (n := 1087) C (mX11_goBack hj (xs (Int32.toNatClampNeg (x3_18 + (1 : Int32)))) S_1075) gv_L_145 (cl_35 (by decide)) rfl rfl hc_X11_goBack ⟨Nat.le_of_ble_eq_true rfl, Nat.le_of_ble_eq_true rfl⟩ rfl rfl (Nat.le_of_ble_eq_true rfl) dL_law_1084 rfl (fun r_1084 S_1084 => ?_)
      refine ge_icmp_eq (t := 1092) (n := 1090) C dL_law_1087 (by decide) rfl (fun h_1087 => ?_) (fun h_1087 => ?_)
      · refine ge_iinc (n := 1095) (v := (x3_18 + (5 : Int32))) (lv2 := [(3, .int (x3_18 + (5 : Int32))), (2, .ref (adr 35 0)), (1, .ref (adr 0 0)), (0, .ref b0)]) C 0 rfl dL_law_1092 rfl rfl (by decide) rfl ?_
        refine ge_goto (n := 18) C dL_law_1095 (by decide) ?_
        exact hag18 (x3_18 + (5 : Int32)) S_1084
      · refine ge_iconst (v := 0) (n := 1091) C dL_law_1090 (by decide) rfl ?_
        exact ge_none
    refine ge_tsOut (t := 1092) C dL_law_32 (ts_out (n := 32) (by decide) (by decide) (fun i hi => match i, hi with
      | 0, _ => hs_0
      | 1, _ => hs_1
      | 2, _ => hs_2
      | 3, _ => hs_3
      | 4, _ => hs_4
      | 5, _ => hs_5
      | 6, _ => hs_6
      | 7, _ => hs_7
      | 8, _ => hs_8
      | 9, _ => hs_9
      | 10, _ => hs_10
      | 11, _ => hs_11
      | 12, _ => hs_12
      | 13, _ => hs_13
      | 14, _ => hs_14
      | 15, _ => hs_15
      | 16, _ => hs_16
      | 17, _ => hs_17
      | 18, _ => hs_18
      | 19, _ => hs_19
      | 20, _ => hs_20
      | 21, _ => hs_21
      | 22, _ => hs_22
      | 23, _ => hs_23
      | 24, _ => hs_24
      | 25, _ => hs_25
      | 26, _ => hs_26
      | 27, _ => hs_27
      | 28, _ => hs_28
      | 29, _ => hs_29
      | 30, _ => hs_30
      | 31, _ => hs_31
      | i + 32, hi => absurd hi (by omega))) (by decide) ?_
    refine ge_iinc (n := 1095) (v := (x3_18 + (5 : Int32))) (lv2 := [(3, .int (x3_18 + (5 : Int32))), (2, .ref (adr 35 0)), (1, .ref (adr 0 0)), (0, .ref b0)]) C 0 rfl dL_law_1092 rfl rfl (by decide) rfl ?_
    refine ge_goto (n := 18) C dL_law_1095 (by decide) ?_
    exact hag18 (x3_18 + (5 : Int32)) S_18
