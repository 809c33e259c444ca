/-! THE LAW, 2 (written by wip/gen/wlaw.py): its forty cases -/
theorem s_L_13 : CsV RL 13 yX9_door cX9_door 5 (some .int) 4 := ⟨TB_t 321 (by decide +kernel) (by decide +kernel), TB_t 1 (by decide +kernel) (by decide +kernel), TB_t 318 (by decide +kernel) (by decide +kernel), TB_t 319 (by decide +kernel) (by decide +kernel), TB_t 320 (by decide +kernel) (by decide +kernel), by decide +kernel, by decide +kernel, by decide +kernel⟩
theorem s_L_17 : CsV RL 17 yX10_door cX10_door 5 (some .int) 4 := ⟨TB_t 1095 (by decide +kernel) (by decide +kernel), TB_t 13 (by decide +kernel) (by decide +kernel), TB_t 1092 (by decide +kernel) (by decide +kernel), TB_t 1093 (by decide +kernel) (by decide +kernel), TB_t 1094 (by decide +kernel) (by decide +kernel), by decide +kernel, by decide +kernel, by decide +kernel⟩
theorem lw_c0 {x : En} {E : Amd} {D : va_G} {ca : Nat → ClassId} {b L : Nat} {xs : Nat → Int32} {nl t : Nat} {hc hm : Nat → Nat} {C N : Mem} (K : Kn x E D ca RL cL_law 4 2048 84000 600000 7302250) (hs : Sc x b L xs) (hL : L ≤ 3072) (hb : 6 * t + 6 ≤ L) (hnl : nl ≤ t) (hr : Rel nl C N) (kk : ∀ (nl2 : Nat) (hc2 : Nat → Nat) (C2 N2 : Mem), Rel nl2 C2 N2 → nl2 ≤ nl + 1 → hc2 0 = hc 0 → Gn x D 4 (wsOf hm (LaM ca hm) N2 ++ wsOf hc2 (LaC ca hc2 nl2) C2) (108 + 2 * (t + 1)) (6870 + 99 * (t + 1)) 1418 (VL b hc hm t) []) : Gn x D 4 (wsOf hm (LaM ca hm) N ++ wsOf hc (LaC ca hc nl) C) (108 + 2 * t) (6870 + 99 * t) 208 (VL b hc hm t) [] := by
  obtain ⟨r, C2, N2, e1, e2, hr2⟩ := door_s hr (xs (6 * t + 1)) (xs (6 * t + 2)) (xs (6 * t + 3)) (xs (6 * t + 4))
  refine n_aload_n K 1 dL_law_208 rfl rfl ?_
  refine n_arg 1 (by decide) (by decide +kernel) K hs hL hb rfl rfl dL_law_209 dL_law_210 dL_law_211 dL_law_212 dL_law_213 ?_
  refine n_arg 2 (by decide) (by decide +kernel) K hs hL hb rfl rfl dL_law_214 dL_law_215 dL_law_216 dL_law_217 dL_law_218 ?_
  refine n_arg 3 (by decide) (by decide +kernel) K hs hL hb rfl rfl dL_law_219 dL_law_220 dL_law_221 dL_law_222 dL_law_223 ?_
  refine n_arg 4 (by decide) (by decide +kernel) K hs hL hb rfl rfl dL_law_224 dL_law_225 dL_law_226 dL_law_227 dL_law_228 ?_
  refine n_callV (nc := 108 + 2 * t) (ns := 6870 + 99 * t) (wsOf hm (LaM ca hm) N) (wsOf hc (LaC ca hc nl) C) [.int (xs (6 * t + 1)), .int (xs (6 * t + 2)), .int (xs (6 * t + 3)), .int (xs (6 * t + 4))] K (ct_cn (k_X9_door x.2.1 E D ca hc nl C (xs (6 * t + 1)) (xs (6 * t + 2)) (xs (6 * t + 3)) (xs (6 * t + 4)) e1)) s_L_13 heC rfl rfl rfl ⟨by decide, by decide⟩ ⟨by omega, by omega⟩ (rest := []) (Nat.le_of_ble_eq_true rfl) _ rfl dL_law_229 (fun v w2 hB => ?_)
  obtain ⟨rfl, rfl⟩ := hB
  refine n_perm _ List.perm_append_comm ?_
  refine n_aload_n K 2 dL_law_232 rfl rfl ?_
  refine n_arg 1 (by decide) (by decide +kernel) K hs hL hb rfl rfl dL_law_233 dL_law_234 dL_law_235 dL_law_236 dL_law_237 ?_
  refine n_arg 2 (by decide) (by decide +kernel) K hs hL hb rfl rfl dL_law_238 dL_law_239 dL_law_240 dL_law_241 dL_law_242 ?_
  refine n_arg 3 (by decide) (by decide +kernel) K hs hL hb rfl rfl dL_law_243 dL_law_244 dL_law_245 dL_law_246 dL_law_247 ?_
  refine n_arg 4 (by decide) (by decide +kernel) K hs hL hb rfl rfl dL_law_248 dL_law_249 dL_law_250 dL_law_251 dL_law_252 ?_
  refine n_callV (nc := 108 + 2 * t + 0) (ns := 6870 + 99 * t + 0) (wsOf hc (LaC ca hc nl) C2) (wsOf hm (LaM ca hm) N) [.int (xs (6 * t + 1)), .int (xs (6 * t + 2)), .int (xs (6 * t + 3)), .int (xs (6 * t + 4))] K (ct_cn (k_X10_door x.2.1 E D ca hm N (xs (6 * t + 1)) (xs (6 * t + 2)) (xs (6 * t + 3)) (xs (6 * t + 4)) e2)) s_L_17 heM rfl rfl rfl ⟨by decide, by decide⟩ ⟨by omega, by omega⟩ (rest := [.int r]) (Nat.le_of_ble_eq_true rfl) _ rfl dL_law_253 (fun v w2 hB => ?_)
  obtain ⟨rfl, rfl⟩ := hB
  refine n_icmp_eq K 1418 dL_law_256 (by decide) (fun _ => ?_) (fun h => absurd rfl h)
  refine n_perm _ List.perm_append_comm ?_
  refine n_wid (108 + 2 * (t + 1)) (6870 + 99 * (t + 1)) (by omega) (by omega) ?_
  exact kk nl hc C2 N2 hr2 (by omega) rfl
theorem s_L_18 : CsV RL 18 yX9_told cX9_told 4 (some .int) 2 := ⟨TB_t 339 (by decide +kernel) (by decide +kernel), TB_t 1 (by decide +kernel) (by decide +kernel), TB_t 336 (by decide +kernel) (by decide +kernel), TB_t 337 (by decide +kernel) (by decide +kernel), TB_t 338 (by decide +kernel) (by decide +kernel), by decide +kernel, by decide +kernel, by decide +kernel⟩
theorem s_L_22 : CsV RL 22 yX10_told cX10_told 3 (some .int) 2 := ⟨TB_t 1111 (by decide +kernel) (by decide +kernel), TB_t 13 (by decide +kernel) (by decide +kernel), TB_t 1108 (by decide +kernel) (by decide +kernel), TB_t 1109 (by decide +kernel) (by decide +kernel), TB_t 1110 (by decide +kernel) (by decide +kernel), by decide +kernel, by decide +kernel, by decide +kernel⟩
theorem lw_c1 {x : En} {E : Amd} {D : va_G} {ca : Nat → ClassId} {b L : Nat} {xs : Nat → Int32} {nl t : Nat} {hc hm : Nat → Nat} {C N : Mem} (K : Kn x E D ca RL cL_law 4 2048 84000 600000 7302250) (hs : Sc x b L xs) (hL : L ≤ 3072) (hb : 6 * t + 6 ≤ L) (hnl : nl ≤ t) (hr : Rel nl C N) (kk : ∀ (nl2 : Nat) (hc2 : Nat → Nat) (C2 N2 : Mem), Rel nl2 C2 N2 → nl2 ≤ nl + 1 → hc2 0 = hc 0 → Gn x D 4 (wsOf hm (LaM ca hm) N2 ++ wsOf hc2 (LaC ca hc2 nl2) C2) (108 + 2 * (t + 1)) (6870 + 99 * (t + 1)) 1418 (VL b hc hm t) []) : Gn x D 4 (wsOf hm (LaM ca hm) N ++ wsOf hc (LaC ca hc nl) C) (108 + 2 * t) (6870 + 99 * t) 261 (VL b hc hm t) [] := by
  obtain ⟨r, C2, N2, e1, e2, hr2⟩ := told_s hr (xs (6 * t + 1)) (xs (6 * t + 2))
  obtain ⟨f1, z1⟩ := withM_e e1
  subst z1
  refine n_aload_n K 1 dL_law_261 rfl rfl ?_
  refine n_arg 1 (by decide) (by decide +kernel) K hs hL hb rfl rfl dL_law_262 dL_law_263 dL_law_264 dL_law_265 dL_law_266 ?_
  refine n_arg 2 (by decide) (by decide +kernel) K hs hL hb rfl rfl dL_law_267 dL_law_268 dL_law_269 dL_law_270 dL_law_271 ?_
  refine n_callV (nc := 108 + 2 * t) (ns := 6870 + 99 * t) (wsOf hm (LaM ca hm) N) (wsOf hc (LaC ca hc nl) C) [.int (xs (6 * t + 1)), .int (xs (6 * t + 2))] K (ct_cn (k_X9_told x.2.1 E D ca hc nl C (xs (6 * t + 1)) (xs (6 * t + 2)) f1)) s_L_18 heC rfl rfl rfl ⟨by decide, by decide⟩ ⟨by omega, by omega⟩ (rest := []) (Nat.le_of_ble_eq_true rfl) _ rfl dL_law_272 (fun v w2 hB => ?_)
  obtain ⟨rfl, rfl⟩ := hB
  refine n_perm _ List.perm_append_comm ?_
  refine n_aload_n K 2 dL_law_275 rfl rfl ?_
  refine n_arg 1 (by decide) (by decide +kernel) K hs hL hb rfl rfl dL_law_276 dL_law_277 dL_law_278 dL_law_279 dL_law_280 ?_
  refine n_arg 2 (by decide) (by decide +kernel) K hs hL hb rfl rfl dL_law_281 dL_law_282 dL_law_283 dL_law_284 dL_law_285 ?_
  refine n_callV (nc := 108 + 2 * t + 0) (ns := 6870 + 99 * t + 0) (wsOf hc (LaC ca hc nl) C) (wsOf hm (LaM ca hm) N) [.int (xs (6 * t + 1)), .int (xs (6 * t + 2))] K (ct_cn (k_X10_told x.2.1 E D ca hm N (xs (6 * t + 1)) (xs (6 * t + 2)) e2)) s_L_22 heM rfl rfl rfl ⟨by decide, by decide⟩ ⟨by omega, by omega⟩ (rest := [.int r]) (Nat.le_of_ble_eq_true rfl) _ rfl dL_law_286 (fun v w2 hB => ?_)
  obtain ⟨rfl, rfl⟩ := hB
  refine n_icmp_eq K 1418 dL_law_289 (by decide) (fun _ => ?_) (fun h => absurd rfl h)
  refine n_perm _ List.perm_append_comm ?_
  refine n_wid (108 + 2 * (t + 1)) (6870 + 99 * (t + 1)) (by omega) (by omega) ?_
  exact kk nl hc C N2 hr2 (by omega) rfl
theorem s_L_23 : CsV RL 23 yX9_as cX9_as 3 (some .int) 2 := ⟨TB_t 368 (by decide +kernel) (by decide +kernel), TB_t 1 (by decide +kernel) (by decide +kernel), TB_t 365 (by decide +kernel) (by decide +kernel), TB_t 366 (by decide +kernel) (by decide +kernel), TB_t 367 (by decide +kernel) (by decide +kernel), by decide +kernel, by decide +kernel, by decide +kernel⟩
theorem s_L_26 : CsV RL 26 yX10_as cX10_as 3 (some .int) 2 := ⟨TB_t 1158 (by decide +kernel) (by decide +kernel), TB_t 13 (by decide +kernel) (by decide +kernel), TB_t 1155 (by decide +kernel) (by decide +kernel), TB_t 1156 (by decide +kernel) (by decide +kernel), TB_t 1157 (by decide +kernel) (by decide +kernel), by decide +kernel, by decide +kernel, by decide +kernel⟩
theorem lw_c2 {x : En} {E : Amd} {D : va_G} {ca : Nat → ClassId} {b L : Nat} {xs : Nat → Int32} {nl t : Nat} {hc hm : Nat → Nat} {C N : Mem} (K : Kn x E D ca RL cL_law 4 2048 84000 600000 7302250) (hs : Sc x b L xs) (hL : L ≤ 3072) (hb : 6 * t + 6 ≤ L) (hnl : nl ≤ t) (hr : Rel nl C N) (kk : ∀ (nl2 : Nat) (hc2 : Nat → Nat) (C2 N2 : Mem), Rel nl2 C2 N2 → nl2 ≤ nl + 1 → hc2 0 = hc 0 → Gn x D 4 (wsOf hm (LaM ca hm) N2 ++ wsOf hc2 (LaC ca hc2 nl2) C2) (108 + 2 * (t + 1)) (6870 + 99 * (t + 1)) 1418 (VL b hc hm t) []) : Gn x D 4 (wsOf hm (LaM ca hm) N ++ wsOf hc (LaC ca hc nl) C) (108 + 2 * t) (6870 + 99 * t) 294 (VL b hc hm t) [] := by
  obtain ⟨r, C2, N2, e1, e2, hr2⟩ := as_s hr (xs (6 * t + 1)) (xs (6 * t + 2))
  obtain ⟨f1, z1⟩ := withM_e e1
  subst z1
  obtain ⟨f2, z2⟩ := withM_e e2
  subst z2
  refine n_aload_n K 1 dL_law_294 rfl rfl ?_
  refine n_arg 1 (by decide) (by decide +kernel) K hs hL hb rfl rfl dL_law_295 dL_law_296 dL_law_297 dL_law_298 dL_law_299 ?_
  refine n_arg 2 (by decide) (by decide +kernel) K hs hL hb rfl rfl dL_law_300 dL_law_301 dL_law_302 dL_law_303 dL_law_304 ?_
  refine n_callV (nc := 108 + 2 * t) (ns := 6870 + 99 * t) (wsOf hm (LaM ca hm) N) (wsOf hc (LaC ca hc nl) C) [.int (xs (6 * t + 1)), .int (xs (6 * t + 2))] K (ct_cn (k_X9_as x.2.1 E D ca hc nl C (xs (6 * t + 1)) (xs (6 * t + 2)) f1)) s_L_23 heC rfl rfl rfl ⟨by decide, by decide⟩ ⟨by omega, by omega⟩ (rest := []) (Nat.le_of_ble_eq_true rfl) _ rfl dL_law_305 (fun v w2 hB => ?_)
  obtain ⟨rfl, rfl⟩ := hB
  refine n_perm _ List.perm_append_comm ?_
  refine n_aload_n K 2 dL_law_308 rfl rfl ?_
  refine n_arg 1 (by decide) (by decide +kernel) K hs hL hb rfl rfl dL_law_309 dL_law_310 dL_law_311 dL_law_312 dL_law_313 ?_
  refine n_arg 2 (by decide) (by decide +kernel) K hs hL hb rfl rfl dL_law_314 dL_law_315 dL_law_316 dL_law_317 dL_law_318 ?_
  refine n_callV (nc := 108 + 2 * t + 0) (ns := 6870 + 99 * t + 0) (wsOf hc (LaC ca hc nl) C) (wsOf hm (LaM ca hm) N) [.int (xs (6 * t + 1)), .int (xs (6 * t + 2))] K (ct_cn (k_X10_as x.2.1 E D ca hm N (xs (6 * t + 1)) (xs (6 * t + 2)) f2)) s_L_26 heM rfl rfl rfl ⟨by decide, by decide⟩ ⟨by omega, by omega⟩ (rest := [.int r]) (Nat.le_of_ble_eq_true rfl) _ rfl dL_law_319 (fun v w2 hB => ?_)
  obtain ⟨rfl, rfl⟩ := hB
  refine n_icmp_eq K 1418 dL_law_322 (by decide) (fun _ => ?_) (fun h => absurd rfl h)
  refine n_perm _ List.perm_append_comm ?_
  refine n_wid (108 + 2 * (t + 1)) (6870 + 99 * (t + 1)) (by omega) (by omega) ?_
  exact kk nl hc C N hr2 (by omega) rfl
theorem s_L_27 : CsV RL 27 yX9_turns cX9_turns 4 (some .int) 2 := ⟨TB_t 378 (by decide +kernel) (by decide +kernel), TB_t 1 (by decide +kernel) (by decide +kernel), TB_t 375 (by decide +kernel) (by decide +kernel), TB_t 376 (by decide +kernel) (by decide +kernel), TB_t 377 (by decide +kernel) (by decide +kernel), by decide +kernel, by decide +kernel, by decide +kernel⟩
theorem s_L_30 : CsV RL 30 yX10_turns cX10_turns 3 (some .int) 2 := ⟨TB_t 1166 (by decide +kernel) (by decide +kernel), TB_t 13 (by decide +kernel) (by decide +kernel), TB_t 1163 (by decide +kernel) (by decide +kernel), TB_t 1164 (by decide +kernel) (by decide +kernel), TB_t 1165 (by decide +kernel) (by decide +kernel), by decide +kernel, by decide +kernel, by decide +kernel⟩
theorem lw_c3 {x : En} {E : Amd} {D : va_G} {ca : Nat → ClassId} {b L : Nat} {xs : Nat → Int32} {nl t : Nat} {hc hm : Nat → Nat} {C N : Mem} (K : Kn x E D ca RL cL_law 4 2048 84000 600000 7302250) (hs : Sc x b L xs) (hL : L ≤ 3072) (hb : 6 * t + 6 ≤ L) (hnl : nl ≤ t) (hr : Rel nl C N) (kk : ∀ (nl2 : Nat) (hc2 : Nat → Nat) (C2 N2 : Mem), Rel nl2 C2 N2 → nl2 ≤ nl + 1 → hc2 0 = hc 0 → Gn x D 4 (wsOf hm (LaM ca hm) N2 ++ wsOf hc2 (LaC ca hc2 nl2) C2) (108 + 2 * (t + 1)) (6870 + 99 * (t + 1)) 1418 (VL b hc hm t) []) : Gn x D 4 (wsOf hm (LaM ca hm) N ++ wsOf hc (LaC ca hc nl) C) (108 + 2 * t) (6870 + 99 * t) 327 (VL b hc hm t) [] := by
  obtain ⟨r, C2, N2, e1, e2, hr2⟩ := turns_s hr (xs (6 * t + 1)) (xs (6 * t + 2))
  refine n_aload_n K 1 dL_law_327 rfl rfl ?_
  refine n_arg 1 (by decide) (by decide +kernel) K hs hL hb rfl rfl dL_law_328 dL_law_329 dL_law_330 dL_law_331 dL_law_332 ?_
  refine n_arg 2 (by decide) (by decide +kernel) K hs hL hb rfl rfl dL_law_333 dL_law_334 dL_law_335 dL_law_336 dL_law_337 ?_
  refine n_callV (nc := 108 + 2 * t) (ns := 6870 + 99 * t) (wsOf hm (LaM ca hm) N) (wsOf hc (LaC ca hc nl) C) [.int (xs (6 * t + 1)), .int (xs (6 * t + 2))] K (ct_cn (k_X9_turns x.2.1 E D ca hc nl C (xs (6 * t + 1)) (xs (6 * t + 2)) e1)) s_L_27 heC rfl rfl rfl ⟨by decide, by decide⟩ ⟨by omega, by omega⟩ (rest := []) (Nat.le_of_ble_eq_true rfl) _ rfl dL_law_338 (fun v w2 hB => ?_)
  obtain ⟨rfl, rfl⟩ := hB
  refine n_perm _ List.perm_append_comm ?_
  refine n_aload_n K 2 dL_law_341 rfl rfl ?_
  refine n_arg 1 (by decide) (by decide +kernel) K hs hL hb rfl rfl dL_law_342 dL_law_343 dL_law_344 dL_law_345 dL_law_346 ?_
  refine n_arg 2 (by decide) (by decide +kernel) K hs hL hb rfl rfl dL_law_347 dL_law_348 dL_law_349 dL_law_350 dL_law_351 ?_
  refine n_callV (nc := 108 + 2 * t + 0) (ns := 6870 + 99 * t + 0) (wsOf hc (LaC ca hc nl) C2) (wsOf hm (LaM ca hm) N) [.int (xs (6 * t + 1)), .int (xs (6 * t + 2))] K (ct_cn (k_X10_turns x.2.1 E D ca hm N (xs (6 * t + 1)) (xs (6 * t + 2)) e2)) s_L_30 heM rfl rfl rfl ⟨by decide, by decide⟩ ⟨by omega, by omega⟩ (rest := [.int r]) (Nat.le_of_ble_eq_true rfl) _ rfl dL_law_352 (fun v w2 hB => ?_)
  obtain ⟨rfl, rfl⟩ := hB
  refine n_icmp_eq K 1418 dL_law_355 (by decide) (fun _ => ?_) (fun h => absurd rfl h)
  refine n_perm _ List.perm_append_comm ?_
  refine n_wid (108 + 2 * (t + 1)) (6870 + 99 * (t + 1)) (by omega) (by omega) ?_
  exact kk nl hc C2 N2 hr2 (by omega) rfl
theorem s_L_31 : CsV RL 31 yX9_open cX9_open 4 (some .int) 2 := ⟨TB_t 382 (by decide +kernel) (by decide +kernel), TB_t 1 (by decide +kernel) (by decide +kernel), TB_t 379 (by decide +kernel) (by decide +kernel), TB_t 380 (by decide +kernel) (by decide +kernel), TB_t 381 (by decide +kernel) (by decide +kernel), by decide +kernel, by decide +kernel, by decide +kernel⟩
theorem s_L_34 : CsV RL 34 yX10_open cX10_open 3 (some .int) 2 := ⟨TB_t 1174 (by decide +kernel) (by decide +kernel), TB_t 13 (by decide +kernel) (by decide +kernel), TB_t 1171 (by decide +kernel) (by decide +kernel), TB_t 1172 (by decide +kernel) (by decide +kernel), TB_t 1173 (by decide +kernel) (by decide +kernel), by decide +kernel, by decide +kernel, by decide +kernel⟩
theorem lw_c4 {x : En} {E : Amd} {D : va_G} {ca : Nat → ClassId} {b L : Nat} {xs : Nat → Int32} {nl t : Nat} {hc hm : Nat → Nat} {C N : Mem} (K : Kn x E D ca RL cL_law 4 2048 84000 600000 7302250) (hs : Sc x b L xs) (hL : L ≤ 3072) (hb : 6 * t + 6 ≤ L) (hnl : nl ≤ t) (hr : Rel nl C N) (kk : ∀ (nl2 : Nat) (hc2 : Nat → Nat) (C2 N2 : Mem), Rel nl2 C2 N2 → nl2 ≤ nl + 1 → hc2 0 = hc 0 → Gn x D 4 (wsOf hm (LaM ca hm) N2 ++ wsOf hc2 (LaC ca hc2 nl2) C2) (108 + 2 * (t + 1)) (6870 + 99 * (t + 1)) 1418 (VL b hc hm t) []) : Gn x D 4 (wsOf hm (LaM ca hm) N ++ wsOf hc (LaC ca hc nl) C) (108 + 2 * t) (6870 + 99 * t) 360 (VL b hc hm t) [] := by
  obtain ⟨r, C2, N2, e1, e2, hr2⟩ := open_s hr (xs (6 * t + 1)) (xs (6 * t + 2))
  refine n_aload_n K 1 dL_law_360 rfl rfl ?_
  refine n_arg 1 (by decide) (by decide +kernel) K hs hL hb rfl rfl dL_law_361 dL_law_362 dL_law_363 dL_law_364 dL_law_365 ?_
  refine n_arg 2 (by decide) (by decide +kernel) K hs hL hb rfl rfl dL_law_366 dL_law_367 dL_law_368 dL_law_369 dL_law_370 ?_
  refine n_callV (nc := 108 + 2 * t) (ns := 6870 + 99 * t) (wsOf hm (LaM ca hm) N) (wsOf hc (LaC ca hc nl) C) [.int (xs (6 * t + 1)), .int (xs (6 * t + 2))] K (ct_cn (k_X9_open x.2.1 E D ca hc nl C (xs (6 * t + 1)) (xs (6 * t + 2)) e1)) s_L_31 heC rfl rfl rfl ⟨by decide, by decide⟩ ⟨by omega, by omega⟩ (rest := []) (Nat.le_of_ble_eq_true rfl) _ rfl dL_law_371 (fun v w2 hB => ?_)
  obtain ⟨rfl, rfl⟩ := hB
  refine n_perm _ List.perm_append_comm ?_
  refine n_aload_n K 2 dL_law_374 rfl rfl ?_
  refine n_arg 1 (by decide) (by decide +kernel) K hs hL hb rfl rfl dL_law_375 dL_law_376 dL_law_377 dL_law_378 dL_law_379 ?_
  refine n_arg 2 (by decide) (by decide +kernel) K hs hL hb rfl rfl dL_law_380 dL_law_381 dL_law_382 dL_law_383 dL_law_384 ?_
  refine n_callV (nc := 108 + 2 * t + 0) (ns := 6870 + 99 * t + 0) (wsOf hc (LaC ca hc nl) C2) (wsOf hm (LaM ca hm) N) [.int (xs (6 * t + 1)), .int (xs (6 * t + 2))] K (ct_cn (k_X10_open x.2.1 E D ca hm N (xs (6 * t + 1)) (xs (6 * t + 2)) e2)) s_L_34 heM rfl rfl rfl ⟨by decide, by decide⟩ ⟨by omega, by omega⟩ (rest := [.int r]) (Nat.le_of_ble_eq_true rfl) _ rfl dL_law_385 (fun v w2 hB => ?_)
  obtain ⟨rfl, rfl⟩ := hB
  refine n_icmp_eq K 1418 dL_law_388 (by decide) (fun _ => ?_) (fun h => absurd rfl h)
  refine n_perm _ List.perm_append_comm ?_
  refine n_wid (108 + 2 * (t + 1)) (6870 + 99 * (t + 1)) (by omega) (by omega) ?_
  exact kk nl hc C2 N2 hr2 (by omega) rfl
theorem s_L_35 : CsV RL 35 yX9_room cX9_room 3 (some .int) 2 := ⟨TB_t 390 (by decide +kernel) (by decide +kernel), TB_t 1 (by decide +kernel) (by decide +kernel), TB_t 387 (by decide +kernel) (by decide +kernel), TB_t 388 (by decide +kernel) (by decide +kernel), TB_t 389 (by decide +kernel) (by decide +kernel), by decide +kernel, by decide +kernel, by decide +kernel⟩
theorem s_L_38 : CsV RL 38 yX10_room cX10_room 3 (some .int) 2 := ⟨TB_t 1178 (by decide +kernel) (by decide +kernel), TB_t 13 (by decide +kernel) (by decide +kernel), TB_t 1175 (by decide +kernel) (by decide +kernel), TB_t 1176 (by decide +kernel) (by decide +kernel), TB_t 1177 (by decide +kernel) (by decide +kernel), by decide +kernel, by decide +kernel, by decide +kernel⟩
theorem lw_c5 {x : En} {E : Amd} {D : va_G} {ca : Nat → ClassId} {b L : Nat} {xs : Nat → Int32} {nl t : Nat} {hc hm : Nat → Nat} {C N : Mem} (K : Kn x E D ca RL cL_law 4 2048 84000 600000 7302250) (hs : Sc x b L xs) (hL : L ≤ 3072) (hb : 6 * t + 6 ≤ L) (hnl : nl ≤ t) (hr : Rel nl C N) (kk : ∀ (nl2 : Nat) (hc2 : Nat → Nat) (C2 N2 : Mem), Rel nl2 C2 N2 → nl2 ≤ nl + 1 → hc2 0 = hc 0 → Gn x D 4 (wsOf hm (LaM ca hm) N2 ++ wsOf hc2 (LaC ca hc2 nl2) C2) (108 + 2 * (t + 1)) (6870 + 99 * (t + 1)) 1418 (VL b hc hm t) []) : Gn x D 4 (wsOf hm (LaM ca hm) N ++ wsOf hc (LaC ca hc nl) C) (108 + 2 * t) (6870 + 99 * t) 393 (VL b hc hm t) [] := by
  obtain ⟨r, C2, N2, e1, e2, hr2⟩ := room_s hr (xs (6 * t + 1)) (xs (6 * t + 2))
  refine n_aload_n K 1 dL_law_393 rfl rfl ?_
  refine n_arg 1 (by decide) (by decide +kernel) K hs hL hb rfl rfl dL_law_394 dL_law_395 dL_law_396 dL_law_397 dL_law_398 ?_
  refine n_arg 2 (by decide) (by decide +kernel) K hs hL hb rfl rfl dL_law_399 dL_law_400 dL_law_401 dL_law_402 dL_law_403 ?_
  refine n_callV (nc := 108 + 2 * t) (ns := 6870 + 99 * t) (wsOf hm (LaM ca hm) N) (wsOf hc (LaC ca hc nl) C) [.int (xs (6 * t + 1)), .int (xs (6 * t + 2))] K (ct_cn (k_X9_room x.2.1 E D ca hc nl C (xs (6 * t + 1)) (xs (6 * t + 2)) e1)) s_L_35 heC rfl rfl rfl ⟨by decide, by decide⟩ ⟨by omega, by omega⟩ (rest := []) (Nat.le_of_ble_eq_true rfl) _ rfl dL_law_404 (fun v w2 hB => ?_)
  obtain ⟨rfl, rfl⟩ := hB
  refine n_perm _ List.perm_append_comm ?_
  refine n_aload_n K 2 dL_law_407 rfl rfl ?_
  refine n_arg 1 (by decide) (by decide +kernel) K hs hL hb rfl rfl dL_law_408 dL_law_409 dL_law_410 dL_law_411 dL_law_412 ?_
  refine n_arg 2 (by decide) (by decide +kernel) K hs hL hb rfl rfl dL_law_413 dL_law_414 dL_law_415 dL_law_416 dL_law_417 ?_
  refine n_callV (nc := 108 + 2 * t + 0) (ns := 6870 + 99 * t + 0) (wsOf hc (LaC ca hc nl) C2) (wsOf hm (LaM ca hm) N) [.int (xs (6 * t + 1)), .int (xs (6 * t + 2))] K (ct_cn (k_X10_room x.2.1 E D ca hm N (xs (6 * t + 1)) (xs (6 * t + 2)) e2)) s_L_38 heM rfl rfl rfl ⟨by decide, by decide⟩ ⟨by omega, by omega⟩ (rest := [.int r]) (Nat.le_of_ble_eq_true rfl) _ rfl dL_law_418 (fun v w2 hB => ?_)
  obtain ⟨rfl, rfl⟩ := hB
  refine n_icmp_eq K 1418 dL_law_421 (by decide) (fun _ => ?_) (fun h => absurd rfl h)
  refine n_perm _ List.perm_append_comm ?_
  refine n_wid (108 + 2 * (t + 1)) (6870 + 99 * (t + 1)) (by omega) (by omega) ?_
  exact kk nl hc C2 N2 hr2 (by omega) rfl
theorem s_L_39 : CsV RL 39 yX9_set cX9_set 5 (some .int) 3 := ⟨TB_t 410 (by decide +kernel) (by decide +kernel), TB_t 1 (by decide +kernel) (by decide +kernel), TB_t 407 (by decide +kernel) (by decide +kernel), TB_t 408 (by decide +kernel) (by decide +kernel), TB_t 409 (by decide +kernel) (by decide +kernel), by decide +kernel, by decide +kernel, by decide +kernel⟩
theorem s_L_43 : CsV RL 43 yX10_set cX10_set 4 (some .int) 3 := ⟨TB_t 1186 (by decide +kernel) (by decide +kernel), TB_t 13 (by decide +kernel) (by decide +kernel), TB_t 1183 (by decide +kernel) (by decide +kernel), TB_t 1184 (by decide +kernel) (by decide +kernel), TB_t 1185 (by decide +kernel) (by decide +kernel), by decide +kernel, by decide +kernel, by decide +kernel⟩
theorem lw_c6 {x : En} {E : Amd} {D : va_G} {ca : Nat → ClassId} {b L : Nat} {xs : Nat → Int32} {nl t : Nat} {hc hm : Nat → Nat} {C N : Mem} (K : Kn x E D ca RL cL_law 4 2048 84000 600000 7302250) (hs : Sc x b L xs) (hL : L ≤ 3072) (hb : 6 * t + 6 ≤ L) (hnl : nl ≤ t) (hr : Rel nl C N) (kk : ∀ (nl2 : Nat) (hc2 : Nat → Nat) (C2 N2 : Mem), Rel nl2 C2 N2 → nl2 ≤ nl + 1 → hc2 0 = hc 0 → Gn x D 4 (wsOf hm (LaM ca hm) N2 ++ wsOf hc2 (LaC ca hc2 nl2) C2) (108 + 2 * (t + 1)) (6870 + 99 * (t + 1)) 1418 (VL b hc hm t) []) : Gn x D 4 (wsOf hm (LaM ca hm) N ++ wsOf hc (LaC ca hc nl) C) (108 + 2 * t) (6870 + 99 * t) 426 (VL b hc hm t) [] := by
  obtain ⟨r, C2, N2, e1, e2, hr2⟩ := set_s hr (xs (6 * t + 1)) (xs (6 * t + 2)) (xs (6 * t + 3))
  refine n_aload_n K 1 dL_law_426 rfl rfl ?_
  refine n_arg 1 (by decide) (by decide +kernel) K hs hL hb rfl rfl dL_law_427 dL_law_428 dL_law_429 dL_law_430 dL_law_431 ?_
  refine n_arg 2 (by decide) (by decide +kernel) K hs hL hb rfl rfl dL_law_432 dL_law_433 dL_law_434 dL_law_435 dL_law_436 ?_
  refine n_arg 3 (by decide) (by decide +kernel) K hs hL hb rfl rfl dL_law_437 dL_law_438 dL_law_439 dL_law_440 dL_law_441 ?_
  refine n_callV (nc := 108 + 2 * t) (ns := 6870 + 99 * t) (wsOf hm (LaM ca hm) N) (wsOf hc (LaC ca hc nl) C) [.int (xs (6 * t + 1)), .int (xs (6 * t + 2)), .int (xs (6 * t + 3))] K (ct_cn (k_X9_set x.2.1 E D ca hc nl C (xs (6 * t + 1)) (xs (6 * t + 2)) (xs (6 * t + 3)) e1)) s_L_39 heC rfl rfl rfl ⟨by decide, by decide⟩ ⟨by omega, by omega⟩ (rest := []) (Nat.le_of_ble_eq_true rfl) _ rfl dL_law_442 (fun v w2 hB => ?_)
  obtain ⟨rfl, rfl⟩ := hB
  refine n_perm _ List.perm_append_comm ?_
  refine n_aload_n K 2 dL_law_445 rfl rfl ?_
  refine n_arg 1 (by decide) (by decide +kernel) K hs hL hb rfl rfl dL_law_446 dL_law_447 dL_law_448 dL_law_449 dL_law_450 ?_
  refine n_arg 2 (by decide) (by decide +kernel) K hs hL hb rfl rfl dL_law_451 dL_law_452 dL_law_453 dL_law_454 dL_law_455 ?_
  refine n_arg 3 (by decide) (by decide +kernel) K hs hL hb rfl rfl dL_law_456 dL_law_457 dL_law_458 dL_law_459 dL_law_460 ?_
  refine n_callV (nc := 108 + 2 * t + 0) (ns := 6870 + 99 * t + 0) (wsOf hc (LaC ca hc nl) C2) (wsOf hm (LaM ca hm) N) [.int (xs (6 * t + 1)), .int (xs (6 * t + 2)), .int (xs (6 * t + 3))] K (ct_cn (k_X10_set x.2.1 E D ca hm N (xs (6 * t + 1)) (xs (6 * t + 2)) (xs (6 * t + 3)) e2)) s_L_43 heM rfl rfl rfl ⟨by decide, by decide⟩ ⟨by omega, by omega⟩ (rest := [.int r]) (Nat.le_of_ble_eq_true rfl) _ rfl dL_law_461 (fun v w2 hB => ?_)
  obtain ⟨rfl, rfl⟩ := hB
  refine n_icmp_eq K 1418 dL_law_464 (by decide) (fun _ => ?_) (fun h => absurd rfl h)
  refine n_perm _ List.perm_append_comm ?_
  refine n_wid (108 + 2 * (t + 1)) (6870 + 99 * (t + 1)) (by omega) (by omega) ?_
  exact kk nl hc C2 N2 hr2 (by omega) rfl
theorem s_L_44 : CsV RL 44 yX9_wind cX9_wind 3 (some .int) 1 := ⟨TB_t 421 (by decide +kernel) (by decide +kernel), TB_t 1 (by decide +kernel) (by decide +kernel), TB_t 418 (by decide +kernel) (by decide +kernel), TB_t 419 (by decide +kernel) (by decide +kernel), TB_t 420 (by decide +kernel) (by decide +kernel), by decide +kernel, by decide +kernel, by decide +kernel⟩
theorem s_L_48 : CsV RL 48 yX10_wind cX10_wind 2 (some .int) 1 := ⟨TB_t 1190 (by decide +kernel) (by decide +kernel), TB_t 13 (by decide +kernel) (by decide +kernel), TB_t 1187 (by decide +kernel) (by decide +kernel), TB_t 1188 (by decide +kernel) (by decide +kernel), TB_t 1189 (by decide +kernel) (by decide +kernel), by decide +kernel, by decide +kernel, by decide +kernel⟩
theorem lw_c7 {x : En} {E : Amd} {D : va_G} {ca : Nat → ClassId} {b L : Nat} {xs : Nat → Int32} {nl t : Nat} {hc hm : Nat → Nat} {C N : Mem} (K : Kn x E D ca RL cL_law 4 2048 84000 600000 7302250) (hs : Sc x b L xs) (hL : L ≤ 3072) (hb : 6 * t + 6 ≤ L) (hnl : nl ≤ t) (hr : Rel nl C N) (kk : ∀ (nl2 : Nat) (hc2 : Nat → Nat) (C2 N2 : Mem), Rel nl2 C2 N2 → nl2 ≤ nl + 1 → hc2 0 = hc 0 → Gn x D 4 (wsOf hm (LaM ca hm) N2 ++ wsOf hc2 (LaC ca hc2 nl2) C2) (108 + 2 * (t + 1)) (6870 + 99 * (t + 1)) 1418 (VL b hc hm t) []) : Gn x D 4 (wsOf hm (LaM ca hm) N ++ wsOf hc (LaC ca hc nl) C) (108 + 2 * t) (6870 + 99 * t) 469 (VL b hc hm t) [] := by
  obtain ⟨r, C2, N2, e1, e2, hr2⟩ := wind_s hr (xs (6 * t + 1))
  refine n_aload_n K 1 dL_law_469 rfl rfl ?_
  refine n_arg 1 (by decide) (by decide +kernel) K hs hL hb rfl rfl dL_law_470 dL_law_471 dL_law_472 dL_law_473 dL_law_474 ?_
  refine n_callV (nc := 108 + 2 * t) (ns := 6870 + 99 * t) (wsOf hm (LaM ca hm) N) (wsOf hc (LaC ca hc nl) C) [.int (xs (6 * t + 1))] K (ct_cn (k_X9_wind x.2.1 E D ca hc nl C (xs (6 * t + 1)) e1)) s_L_44 heC rfl rfl rfl ⟨by decide, by decide⟩ ⟨by omega, by omega⟩ (rest := []) (Nat.le_of_ble_eq_true rfl) _ rfl dL_law_475 (fun v w2 hB => ?_)
  obtain ⟨rfl, rfl⟩ := hB
  refine n_perm _ List.perm_append_comm ?_
  refine n_aload_n K 2 dL_law_478 rfl rfl ?_
  refine n_arg 1 (by decide) (by decide +kernel) K hs hL hb rfl rfl dL_law_479 dL_law_480 dL_law_481 dL_law_482 dL_law_483 ?_
  refine n_callV (nc := 108 + 2 * t + 0) (ns := 6870 + 99 * t + 0) (wsOf hc (LaC ca hc nl) C2) (wsOf hm (LaM ca hm) N) [.int (xs (6 * t + 1))] K (ct_cn (k_X10_wind x.2.1 E D ca hm N (xs (6 * t + 1)) e2)) s_L_48 heM rfl rfl rfl ⟨by decide, by decide⟩ ⟨by omega, by omega⟩ (rest := [.int r]) (Nat.le_of_ble_eq_true rfl) _ rfl dL_law_484 (fun v w2 hB => ?_)
  obtain ⟨rfl, rfl⟩ := hB
  refine n_icmp_eq K 1418 dL_law_487 (by decide) (fun _ => ?_) (fun h => absurd rfl h)
  refine n_perm _ List.perm_append_comm ?_
  refine n_wid (108 + 2 * (t + 1)) (6870 + 99 * (t + 1)) (by omega) (by omega) ?_
  exact kk nl hc C2 N2 hr2 (by omega) rfl
theorem s_L_49 : CsV RL 49 yX9_deal cX9_deal 4 (some .int) 1 := ⟨TB_t 425 (by decide +kernel) (by decide +kernel), TB_t 1 (by decide +kernel) (by decide +kernel), TB_t 422 (by decide +kernel) (by decide +kernel), TB_t 423 (by decide +kernel) (by decide +kernel), TB_t 424 (by decide +kernel) (by decide +kernel), by decide +kernel, by decide +kernel, by decide +kernel⟩
theorem s_L_52 : CsV RL 52 yX10_deal cX10_deal 7 (some .int) 1 := ⟨TB_t 1194 (by decide +kernel) (by decide +kernel), TB_t 13 (by decide +kernel) (by decide +kernel), TB_t 1191 (by decide +kernel) (by decide +kernel), TB_t 1192 (by decide +kernel) (by decide +kernel), TB_t 1193 (by decide +kernel) (by decide +kernel), by decide +kernel, by decide +kernel, by decide +kernel⟩
theorem lw_c8 {x : En} {E : Amd} {D : va_G} {ca : Nat → ClassId} {b L : Nat} {xs : Nat → Int32} {nl t : Nat} {hc hm : Nat → Nat} {C N : Mem} (K : Kn x E D ca RL cL_law 4 2048 84000 600000 7302250) (hs : Sc x b L xs) (hL : L ≤ 3072) (hb : 6 * t + 6 ≤ L) (hnl : nl ≤ t) (hr : Rel nl C N) (kk : ∀ (nl2 : Nat) (hc2 : Nat → Nat) (C2 N2 : Mem), Rel nl2 C2 N2 → nl2 ≤ nl + 1 → hc2 0 = hc 0 → Gn x D 4 (wsOf hm (LaM ca hm) N2 ++ wsOf hc2 (LaC ca hc2 nl2) C2) (108 + 2 * (t + 1)) (6870 + 99 * (t + 1)) 1418 (VL b hc hm t) []) : Gn x D 4 (wsOf hm (LaM ca hm) N ++ wsOf hc (LaC ca hc nl) C) (108 + 2 * t) (6870 + 99 * t) 492 (VL b hc hm t) [] := by
  obtain ⟨r, C2, N2, e1, e2, hr2⟩ := deal_s hr (xs (6 * t + 1))
  refine n_aload_n K 1 dL_law_492 rfl rfl ?_
  refine n_arg 1 (by decide) (by decide +kernel) K hs hL hb rfl rfl dL_law_493 dL_law_494 dL_law_495 dL_law_496 dL_law_497 ?_
  refine n_callV (nc := 108 + 2 * t) (ns := 6870 + 99 * t) (wsOf hm (LaM ca hm) N) (wsOf hc (LaC ca hc nl) C) [.int (xs (6 * t + 1))] K (ct_cn (k_X9_deal x.2.1 E D ca hc nl C (xs (6 * t + 1)) e1)) s_L_49 heC rfl rfl rfl ⟨by decide, by decide⟩ ⟨by omega, by omega⟩ (rest := []) (Nat.le_of_ble_eq_true rfl) _ rfl dL_law_498 (fun v w2 hB => ?_)
  obtain ⟨rfl, rfl⟩ := hB
  refine n_perm _ List.perm_append_comm ?_
  refine n_aload_n K 2 dL_law_501 rfl rfl ?_
  refine n_arg 1 (by decide) (by decide +kernel) K hs hL hb rfl rfl dL_law_502 dL_law_503 dL_law_504 dL_law_505 dL_law_506 ?_
  refine n_callV (nc := 108 + 2 * t + 0) (ns := 6870 + 99 * t + 0) (wsOf hc (LaC ca hc nl) C2) (wsOf hm (LaM ca hm) N) [.int (xs (6 * t + 1))] K (ct_cn (k_X10_deal x.2.1 E D ca hm N (xs (6 * t + 1)) e2)) s_L_52 heM rfl rfl rfl ⟨by decide, by decide⟩ ⟨by omega, by omega⟩ (rest := [.int r]) (Nat.le_of_ble_eq_true rfl) _ rfl dL_law_507 (fun v w2 hB => ?_)
  obtain ⟨rfl, rfl⟩ := hB
  refine n_icmp_eq K 1418 dL_law_510 (by decide) (fun _ => ?_) (fun h => absurd rfl h)
  refine n_perm _ List.perm_append_comm ?_
  refine n_wid (108 + 2 * (t + 1)) (6870 + 99 * (t + 1)) (by omega) (by omega) ?_
  exact kk nl hc C2 N2 hr2 (by omega) rfl
theorem s_L_53 : CsV RL 53 yX9_seed cX9_seed 3 (some .int) 1 := ⟨TB_t 440 (by decide +kernel) (by decide +kernel), TB_t 1 (by decide +kernel) (by decide +kernel), TB_t 437 (by decide +kernel) (by decide +kernel), TB_t 438 (by decide +kernel) (by decide +kernel), TB_t 439 (by decide +kernel) (by decide +kernel), by decide +kernel, by decide +kernel, by decide +kernel⟩
theorem s_L_56 : CsV RL 56 yX10_seed cX10_seed 2 (some .int) 1 := ⟨TB_t 1203 (by decide +kernel) (by decide +kernel), TB_t 13 (by decide +kernel) (by decide +kernel), TB_t 1200 (by decide +kernel) (by decide +kernel), TB_t 1201 (by decide +kernel) (by decide +kernel), TB_t 1202 (by decide +kernel) (by decide +kernel), by decide +kernel, by decide +kernel, by decide +kernel⟩
theorem lw_c9 {x : En} {E : Amd} {D : va_G} {ca : Nat → ClassId} {b L : Nat} {xs : Nat → Int32} {nl t : Nat} {hc hm : Nat → Nat} {C N : Mem} (K : Kn x E D ca RL cL_law 4 2048 84000 600000 7302250) (hs : Sc x b L xs) (hL : L ≤ 3072) (hb : 6 * t + 6 ≤ L) (hnl : nl ≤ t) (hr : Rel nl C N) (kk : ∀ (nl2 : Nat) (hc2 : Nat → Nat) (C2 N2 : Mem), Rel nl2 C2 N2 → nl2 ≤ nl + 1 → hc2 0 = hc 0 → Gn x D 4 (wsOf hm (LaM ca hm) N2 ++ wsOf hc2 (LaC ca hc2 nl2) C2) (108 + 2 * (t + 1)) (6870 + 99 * (t + 1)) 1418 (VL b hc hm t) []) : Gn x D 4 (wsOf hm (LaM ca hm) N ++ wsOf hc (LaC ca hc nl) C) (108 + 2 * t) (6870 + 99 * t) 515 (VL b hc hm t) [] := by
  obtain ⟨r, C2, N2, e1, e2, hr2⟩ := seed_s hr (xs (6 * t + 1))
  refine n_aload_n K 1 dL_law_515 rfl rfl ?_
  refine n_arg 1 (by decide) (by decide +kernel) K hs hL hb rfl rfl dL_law_516 dL_law_517 dL_law_518 dL_law_519 dL_law_520 ?_
  refine n_callV (nc := 108 + 2 * t) (ns := 6870 + 99 * t) (wsOf hm (LaM ca hm) N) (wsOf hc (LaC ca hc nl) C) [.int (xs (6 * t + 1))] K (ct_cn (k_X9_seed x.2.1 E D ca hc nl C (xs (6 * t + 1)) e1)) s_L_53 heC rfl rfl rfl ⟨by decide, by decide⟩ ⟨by omega, by omega⟩ (rest := []) (Nat.le_of_ble_eq_true rfl) _ rfl dL_law_521 (fun v w2 hB => ?_)
  obtain ⟨rfl, rfl⟩ := hB
  refine n_perm _ List.perm_append_comm ?_
  refine n_aload_n K 2 dL_law_524 rfl rfl ?_
  refine n_arg 1 (by decide) (by decide +kernel) K hs hL hb rfl rfl dL_law_525 dL_law_526 dL_law_527 dL_law_528 dL_law_529 ?_
  refine n_callV (nc := 108 + 2 * t + 0) (ns := 6870 + 99 * t + 0) (wsOf hc (LaC ca hc nl) C2) (wsOf hm (LaM ca hm) N) [.int (xs (6 * t + 1))] K (ct_cn (k_X10_seed x.2.1 E D ca hm N (xs (6 * t + 1)) e2)) s_L_56 heM rfl rfl rfl ⟨by decide, by decide⟩ ⟨by omega, by omega⟩ (rest := [.int r]) (Nat.le_of_ble_eq_true rfl) _ rfl dL_law_530 (fun v w2 hB => ?_)
  obtain ⟨rfl, rfl⟩ := hB
  refine n_icmp_eq K 1418 dL_law_533 (by decide) (fun _ => ?_) (fun h => absurd rfl h)
  refine n_perm _ List.perm_append_comm ?_
  refine n_wid (108 + 2 * (t + 1)) (6870 + 99 * (t + 1)) (by omega) (by omega) ?_
  exact kk nl hc C2 N2 hr2 (by omega) rfl
theorem s_L_57 : CsV RL 57 yX9_run cX9_run 5 (some .int) 1 := ⟨TB_t 444 (by decide +kernel) (by decide +kernel), TB_t 1 (by decide +kernel) (by decide +kernel), TB_t 441 (by decide +kernel) (by decide +kernel), TB_t 442 (by decide +kernel) (by decide +kernel), TB_t 443 (by decide +kernel) (by decide +kernel), by decide +kernel, by decide +kernel, by decide +kernel⟩
theorem s_L_60 : CsV RL 60 yX10_run cX10_run 2 (some .int) 1 := ⟨TB_t 1207 (by decide +kernel) (by decide +kernel), TB_t 13 (by decide +kernel) (by decide +kernel), TB_t 1204 (by decide +kernel) (by decide +kernel), TB_t 1205 (by decide +kernel) (by decide +kernel), TB_t 1206 (by decide +kernel) (by decide +kernel), by decide +kernel, by decide +kernel, by decide +kernel⟩
theorem lw_c10 {x : En} {E : Amd} {D : va_G} {ca : Nat → ClassId} {b L : Nat} {xs : Nat → Int32} {nl t : Nat} {hc hm : Nat → Nat} {C N : Mem} (K : Kn x E D ca RL cL_law 4 2048 84000 600000 7302250) (hs : Sc x b L xs) (hL : L ≤ 3072) (hb : 6 * t + 6 ≤ L) (hnl : nl ≤ t) (hr : Rel nl C N) (kk : ∀ (nl2 : Nat) (hc2 : Nat → Nat) (C2 N2 : Mem), Rel nl2 C2 N2 → nl2 ≤ nl + 1 → hc2 0 = hc 0 → Gn x D 4 (wsOf hm (LaM ca hm) N2 ++ wsOf hc2 (LaC ca hc2 nl2) C2) (108 + 2 * (t + 1)) (6870 + 99 * (t + 1)) 1418 (VL b hc hm t) []) : Gn x D 4 (wsOf hm (LaM ca hm) N ++ wsOf hc (LaC ca hc nl) C) (108 + 2 * t) (6870 + 99 * t) 538 (VL b hc hm t) [] := by
  obtain ⟨r, C2, N2, e1, e2, hr2⟩ := run_s (by omega) hr (xs (6 * t + 1))
  refine n_aload_n K 1 dL_law_538 rfl rfl ?_
  refine n_arg 1 (by decide) (by decide +kernel) K hs hL hb rfl rfl dL_law_539 dL_law_540 dL_law_541 dL_law_542 dL_law_543 ?_
  refine n_callV (nc := 108 + 2 * t) (ns := 6870 + 99 * t) (wsOf hm (LaM ca hm) N) (wsOf hc (LaC ca hc nl) C) [.int (xs (6 * t + 1))] K (ct_cn (k_X9_run x.2.1 E D ca hc nl C (xs (6 * t + 1)) e1)) s_L_57 heC rfl rfl rfl ⟨by decide, by decide⟩ ⟨by omega, by omega⟩ (rest := []) (Nat.le_of_ble_eq_true rfl) _ rfl dL_law_544 (fun v w2 hB => ?_)
  obtain ⟨rfl, rfl⟩ := hB
  refine n_perm _ List.perm_append_comm ?_
  refine n_aload_n K 2 dL_law_547 rfl rfl ?_
  refine n_arg 1 (by decide) (by decide +kernel) K hs hL hb rfl rfl dL_law_548 dL_law_549 dL_law_550 dL_law_551 dL_law_552 ?_
  refine n_callV (nc := 108 + 2 * t + 0) (ns := 6870 + 99 * t + 0) (wsOf hc (LaC ca hc nl) C2) (wsOf hm (LaM ca hm) N) [.int (xs (6 * t + 1))] K (ct_cn (k_X10_run x.2.1 E D ca hm N (xs (6 * t + 1)) e2)) s_L_60 heM rfl rfl rfl ⟨by decide, by decide⟩ ⟨by omega, by omega⟩ (rest := [.int r]) (Nat.le_of_ble_eq_true rfl) _ rfl dL_law_553 (fun v w2 hB => ?_)
  obtain ⟨rfl, rfl⟩ := hB
  refine n_icmp_eq K 1418 dL_law_556 (by decide) (fun _ => ?_) (fun h => absurd rfl h)
  refine n_perm _ List.perm_append_comm ?_
  refine n_wid (108 + 2 * (t + 1)) (6870 + 99 * (t + 1)) (by omega) (by omega) ?_
  exact kk nl hc C2 N2 hr2 (by omega) rfl
theorem s_L_61 : CsV RL 61 yX9_footman cX9_footman 3 (some .int) 1 := ⟨TB_t 489 (by decide +kernel) (by decide +kernel), TB_t 1 (by decide +kernel) (by decide +kernel), TB_t 486 (by decide +kernel) (by decide +kernel), TB_t 487 (by decide +kernel) (by decide +kernel), TB_t 488 (by decide +kernel) (by decide +kernel), by decide +kernel, by decide +kernel, by decide +kernel⟩
theorem s_L_64 : CsV RL 64 yX10_footman cX10_footman 4 (some .int) 1 := ⟨TB_t 1231 (by decide +kernel) (by decide +kernel), TB_t 13 (by decide +kernel) (by decide +kernel), TB_t 1228 (by decide +kernel) (by decide +kernel), TB_t 1229 (by decide +kernel) (by decide +kernel), TB_t 1230 (by decide +kernel) (by decide +kernel), by decide +kernel, by decide +kernel, by decide +kernel⟩
theorem lw_c11 {x : En} {E : Amd} {D : va_G} {ca : Nat → ClassId} {b L : Nat} {xs : Nat → Int32} {nl t : Nat} {hc hm : Nat → Nat} {C N : Mem} (K : Kn x E D ca RL cL_law 4 2048 84000 600000 7302250) (hs : Sc x b L xs) (hL : L ≤ 3072) (hb : 6 * t + 6 ≤ L) (hnl : nl ≤ t) (hr : Rel nl C N) (kk : ∀ (nl2 : Nat) (hc2 : Nat → Nat) (C2 N2 : Mem), Rel nl2 C2 N2 → nl2 ≤ nl + 1 → hc2 0 = hc 0 → Gn x D 4 (wsOf hm (LaM ca hm) N2 ++ wsOf hc2 (LaC ca hc2 nl2) C2) (108 + 2 * (t + 1)) (6870 + 99 * (t + 1)) 1418 (VL b hc hm t) []) : Gn x D 4 (wsOf hm (LaM ca hm) N ++ wsOf hc (LaC ca hc nl) C) (108 + 2 * t) (6870 + 99 * t) 561 (VL b hc hm t) [] := by
  obtain ⟨r, C2, N2, e1, e2, hr2⟩ := footman_s hr (xs (6 * t + 1))
  refine n_aload_n K 1 dL_law_561 rfl rfl ?_
  refine n_arg 1 (by decide) (by decide +kernel) K hs hL hb rfl rfl dL_law_562 dL_law_563 dL_law_564 dL_law_565 dL_law_566 ?_
  refine n_callV (nc := 108 + 2 * t) (ns := 6870 + 99 * t) (wsOf hm (LaM ca hm) N) (wsOf hc (LaC ca hc nl) C) [.int (xs (6 * t + 1))] K (ct_cn (k_X9_footman x.2.1 E D ca hc nl C (xs (6 * t + 1)) e1)) s_L_61 heC rfl rfl rfl ⟨by decide, by decide⟩ ⟨by omega, by omega⟩ (rest := []) (Nat.le_of_ble_eq_true rfl) _ rfl dL_law_567 (fun v w2 hB => ?_)
  obtain ⟨rfl, rfl⟩ := hB
  refine n_perm _ List.perm_append_comm ?_
  refine n_aload_n K 2 dL_law_570 rfl rfl ?_
  refine n_arg 1 (by decide) (by decide +kernel) K hs hL hb rfl rfl dL_law_571 dL_law_572 dL_law_573 dL_law_574 dL_law_575 ?_
  refine n_callV (nc := 108 + 2 * t + 0) (ns := 6870 + 99 * t + 0) (wsOf hc (LaC ca hc nl) C2) (wsOf hm (LaM ca hm) N) [.int (xs (6 * t + 1))] K (ct_cn (k_X10_footman x.2.1 E D ca hm N (xs (6 * t + 1)) e2)) s_L_64 heM rfl rfl rfl ⟨by decide, by decide⟩ ⟨by omega, by omega⟩ (rest := [.int r]) (Nat.le_of_ble_eq_true rfl) _ rfl dL_law_576 (fun v w2 hB => ?_)
  obtain ⟨rfl, rfl⟩ := hB
  refine n_icmp_eq K 1418 dL_law_579 (by decide) (fun _ => ?_) (fun h => absurd rfl h)
  refine n_perm _ List.perm_append_comm ?_
  refine n_wid (108 + 2 * (t + 1)) (6870 + 99 * (t + 1)) (by omega) (by omega) ?_
  exact kk nl hc C2 N2 hr2 (by omega) rfl
theorem s_L_65 : CsV RL 65 yX9_hall cX9_hall 2 (some .int) 1 := ⟨TB_t 502 (by decide +kernel) (by decide +kernel), TB_t 1 (by decide +kernel) (by decide +kernel), TB_t 499 (by decide +kernel) (by decide +kernel), TB_t 500 (by decide +kernel) (by decide +kernel), TB_t 501 (by decide +kernel) (by decide +kernel), by decide +kernel, by decide +kernel, by decide +kernel⟩
theorem s_L_68 : CsV RL 68 yX10_hall cX10_hall 2 (some .int) 1 := ⟨TB_t 1235 (by decide +kernel) (by decide +kernel), TB_t 13 (by decide +kernel) (by decide +kernel), TB_t 1232 (by decide +kernel) (by decide +kernel), TB_t 1233 (by decide +kernel) (by decide +kernel), TB_t 1234 (by decide +kernel) (by decide +kernel), by decide +kernel, by decide +kernel, by decide +kernel⟩
theorem lw_c12 {x : En} {E : Amd} {D : va_G} {ca : Nat → ClassId} {b L : Nat} {xs : Nat → Int32} {nl t : Nat} {hc hm : Nat → Nat} {C N : Mem} (K : Kn x E D ca RL cL_law 4 2048 84000 600000 7302250) (hs : Sc x b L xs) (hL : L ≤ 3072) (hb : 6 * t + 6 ≤ L) (hnl : nl ≤ t) (hr : Rel nl C N) (kk : ∀ (nl2 : Nat) (hc2 : Nat → Nat) (C2 N2 : Mem), Rel nl2 C2 N2 → nl2 ≤ nl + 1 → hc2 0 = hc 0 → Gn x D 4 (wsOf hm (LaM ca hm) N2 ++ wsOf hc2 (LaC ca hc2 nl2) C2) (108 + 2 * (t + 1)) (6870 + 99 * (t + 1)) 1418 (VL b hc hm t) []) : Gn x D 4 (wsOf hm (LaM ca hm) N ++ wsOf hc (LaC ca hc nl) C) (108 + 2 * t) (6870 + 99 * t) 584 (VL b hc hm t) [] := by
  obtain ⟨r, C2, N2, e1, e2, hr2⟩ := hall_s hr (xs (6 * t + 1))
  obtain ⟨f1, z1⟩ := withM_e e1
  subst z1
  obtain ⟨f2, z2⟩ := withM_e e2
  subst z2
  refine n_aload_n K 1 dL_law_584 rfl rfl ?_
  refine n_arg 1 (by decide) (by decide +kernel) K hs hL hb rfl rfl dL_law_585 dL_law_586 dL_law_587 dL_law_588 dL_law_589 ?_
  refine n_callV (nc := 108 + 2 * t) (ns := 6870 + 99 * t) (wsOf hm (LaM ca hm) N) (wsOf hc (LaC ca hc nl) C) [.int (xs (6 * t + 1))] K (ct_cn (k_X9_hall x.2.1 E D ca hc nl C (xs (6 * t + 1)) f1)) s_L_65 heC rfl rfl rfl ⟨by decide, by decide⟩ ⟨by omega, by omega⟩ (rest := []) (Nat.le_of_ble_eq_true rfl) _ rfl dL_law_590 (fun v w2 hB => ?_)
  obtain ⟨rfl, rfl⟩ := hB
  refine n_perm _ List.perm_append_comm ?_
  refine n_aload_n K 2 dL_law_593 rfl rfl ?_
  refine n_arg 1 (by decide) (by decide +kernel) K hs hL hb rfl rfl dL_law_594 dL_law_595 dL_law_596 dL_law_597 dL_law_598 ?_
  refine n_callV (nc := 108 + 2 * t + 0) (ns := 6870 + 99 * t + 0) (wsOf hc (LaC ca hc nl) C) (wsOf hm (LaM ca hm) N) [.int (xs (6 * t + 1))] K (ct_cn (k_X10_hall x.2.1 E D ca hm N (xs (6 * t + 1)) f2)) s_L_68 heM rfl rfl rfl ⟨by decide, by decide⟩ ⟨by omega, by omega⟩ (rest := [.int r]) (Nat.le_of_ble_eq_true rfl) _ rfl dL_law_599 (fun v w2 hB => ?_)
  obtain ⟨rfl, rfl⟩ := hB
  refine n_icmp_eq K 1418 dL_law_602 (by decide) (fun _ => ?_) (fun h => absurd rfl h)
  refine n_perm _ List.perm_append_comm ?_
  refine n_wid (108 + 2 * (t + 1)) (6870 + 99 * (t + 1)) (by omega) (by omega) ?_
  exact kk nl hc C N hr2 (by omega) rfl
theorem s_L_69 : CsV RL 69 yX9_behind cX9_behind 5 (some .int) 3 := ⟨TB_t 514 (by decide +kernel) (by decide +kernel), TB_t 1 (by decide +kernel) (by decide +kernel), TB_t 511 (by decide +kernel) (by decide +kernel), TB_t 512 (by decide +kernel) (by decide +kernel), TB_t 513 (by decide +kernel) (by decide +kernel), by decide +kernel, by decide +kernel, by decide +kernel⟩
theorem s_L_72 : CsV RL 72 yX10_behind cX10_behind 6 (some .int) 3 := ⟨TB_t 1251 (by decide +kernel) (by decide +kernel), TB_t 13 (by decide +kernel) (by decide +kernel), TB_t 1248 (by decide +kernel) (by decide +kernel), TB_t 1249 (by decide +kernel) (by decide +kernel), TB_t 1250 (by decide +kernel) (by decide +kernel), by decide +kernel, by decide +kernel, by decide +kernel⟩
theorem lw_c13 {x : En} {E : Amd} {D : va_G} {ca : Nat → ClassId} {b L : Nat} {xs : Nat → Int32} {nl t : Nat} {hc hm : Nat → Nat} {C N : Mem} (K : Kn x E D ca RL cL_law 4 2048 84000 600000 7302250) (hs : Sc x b L xs) (hL : L ≤ 3072) (hb : 6 * t + 6 ≤ L) (hnl : nl ≤ t) (hr : Rel nl C N) (kk : ∀ (nl2 : Nat) (hc2 : Nat → Nat) (C2 N2 : Mem), Rel nl2 C2 N2 → nl2 ≤ nl + 1 → hc2 0 = hc 0 → Gn x D 4 (wsOf hm (LaM ca hm) N2 ++ wsOf hc2 (LaC ca hc2 nl2) C2) (108 + 2 * (t + 1)) (6870 + 99 * (t + 1)) 1418 (VL b hc hm t) []) : Gn x D 4 (wsOf hm (LaM ca hm) N ++ wsOf hc (LaC ca hc nl) C) (108 + 2 * t) (6870 + 99 * t) 607 (VL b hc hm t) [] := by
  obtain ⟨r, C2, N2, e1, e2, hr2⟩ := behind_s (by omega) hr (xs (6 * t + 1)) (xs (6 * t + 2)) (xs (6 * t + 3))
  refine n_aload_n K 1 dL_law_607 rfl rfl ?_
  refine n_arg 1 (by decide) (by decide +kernel) K hs hL hb rfl rfl dL_law_608 dL_law_609 dL_law_610 dL_law_611 dL_law_612 ?_
  refine n_arg 2 (by decide) (by decide +kernel) K hs hL hb rfl rfl dL_law_613 dL_law_614 dL_law_615 dL_law_616 dL_law_617 ?_
  refine n_arg 3 (by decide) (by decide +kernel) K hs hL hb rfl rfl dL_law_618 dL_law_619 dL_law_620 dL_law_621 dL_law_622 ?_
  refine n_callV (nc := 108 + 2 * t) (ns := 6870 + 99 * t) (wsOf hm (LaM ca hm) N) (wsOf hc (LaC ca hc nl) C) [.int (xs (6 * t + 1)), .int (xs (6 * t + 2)), .int (xs (6 * t + 3))] K (ct_cn (k_X9_behind x.2.1 E D ca hc nl C (xs (6 * t + 1)) (xs (6 * t + 2)) (xs (6 * t + 3)) e1)) s_L_69 heC rfl rfl rfl ⟨by decide, by decide⟩ ⟨by omega, by omega⟩ (rest := []) (Nat.le_of_ble_eq_true rfl) _ rfl dL_law_623 (fun v w2 hB => ?_)
  obtain ⟨rfl, rfl⟩ := hB
  refine n_perm _ List.perm_append_comm ?_
  refine n_aload_n K 2 dL_law_626 rfl rfl ?_
  refine n_arg 1 (by decide) (by decide +kernel) K hs hL hb rfl rfl dL_law_627 dL_law_628 dL_law_629 dL_law_630 dL_law_631 ?_
  refine n_arg 2 (by decide) (by decide +kernel) K hs hL hb rfl rfl dL_law_632 dL_law_633 dL_law_634 dL_law_635 dL_law_636 ?_
  refine n_arg 3 (by decide) (by decide +kernel) K hs hL hb rfl rfl dL_law_637 dL_law_638 dL_law_639 dL_law_640 dL_law_641 ?_
  refine n_callV (nc := 108 + 2 * t + 0) (ns := 6870 + 99 * t + 0) (wsOf hc (LaC ca hc nl) C2) (wsOf hm (LaM ca hm) N) [.int (xs (6 * t + 1)), .int (xs (6 * t + 2)), .int (xs (6 * t + 3))] K (ct_cn (k_X10_behind x.2.1 E D ca hm N (xs (6 * t + 1)) (xs (6 * t + 2)) (xs (6 * t + 3)) e2)) s_L_72 heM rfl rfl rfl ⟨by decide, by decide⟩ ⟨by omega, by omega⟩ (rest := [.int r]) (Nat.le_of_ble_eq_true rfl) _ rfl dL_law_642 (fun v w2 hB => ?_)
  obtain ⟨rfl, rfl⟩ := hB
  refine n_icmp_eq K 1418 dL_law_645 (by decide) (fun _ => ?_) (fun h => absurd rfl h)
  refine n_perm _ List.perm_append_comm ?_
  refine n_wid (108 + 2 * (t + 1)) (6870 + 99 * (t + 1)) (by omega) (by omega) ?_
  exact kk nl hc C2 N2 hr2 (by omega) rfl
theorem s_L_73 : CsV RL 73 yX9_still cX9_still 1 (some .int) 0 := ⟨TB_t 541 (by decide +kernel) (by decide +kernel), TB_t 1 (by decide +kernel) (by decide +kernel), TB_t 538 (by decide +kernel) (by decide +kernel), TB_t 539 (by decide +kernel) (by decide +kernel), TB_t 540 (by decide +kernel) (by decide +kernel), by decide +kernel, by decide +kernel, by decide +kernel⟩
theorem s_L_77 : CsV RL 77 yX10_still cX10_still 3 (some .int) 0 := ⟨TB_t 1263 (by decide +kernel) (by decide +kernel), TB_t 13 (by decide +kernel) (by decide +kernel), TB_t 1260 (by decide +kernel) (by decide +kernel), TB_t 1261 (by decide +kernel) (by decide +kernel), TB_t 1262 (by decide +kernel) (by decide +kernel), by decide +kernel, by decide +kernel, by decide +kernel⟩
theorem lw_c14 {x : En} {E : Amd} {D : va_G} {ca : Nat → ClassId} {b L : Nat} {xs : Nat → Int32} {nl t : Nat} {hc hm : Nat → Nat} {C N : Mem} (K : Kn x E D ca RL cL_law 4 2048 84000 600000 7302250) (hs : Sc x b L xs) (hL : L ≤ 3072) (hb : 6 * t + 6 ≤ L) (hnl : nl ≤ t) (hr : Rel nl C N) (kk : ∀ (nl2 : Nat) (hc2 : Nat → Nat) (C2 N2 : Mem), Rel nl2 C2 N2 → nl2 ≤ nl + 1 → hc2 0 = hc 0 → Gn x D 4 (wsOf hm (LaM ca hm) N2 ++ wsOf hc2 (LaC ca hc2 nl2) C2) (108 + 2 * (t + 1)) (6870 + 99 * (t + 1)) 1418 (VL b hc hm t) []) : Gn x D 4 (wsOf hm (LaM ca hm) N ++ wsOf hc (LaC ca hc nl) C) (108 + 2 * t) (6870 + 99 * t) 650 (VL b hc hm t) [] := by
  obtain ⟨r, C2, N2, e1, e2, hr2⟩ := still_s hr 
  refine n_aload_n K 1 dL_law_650 rfl rfl ?_
  refine n_callV (nc := 108 + 2 * t) (ns := 6870 + 99 * t) (wsOf hm (LaM ca hm) N) (wsOf hc (LaC ca hc nl) C) [] K (ct_cn (k_X9_still x.2.1 E D ca hc nl C  e1)) s_L_73 heC rfl rfl rfl ⟨by decide, by decide⟩ ⟨by omega, by omega⟩ (rest := []) (Nat.le_of_ble_eq_true rfl) _ rfl dL_law_651 (fun v w2 hB => ?_)
  obtain ⟨rfl, rfl⟩ := hB
  refine n_perm _ List.perm_append_comm ?_
  refine n_aload_n K 2 dL_law_654 rfl rfl ?_
  refine n_callV (nc := 108 + 2 * t + 0) (ns := 6870 + 99 * t + 0) (wsOf hc (LaC ca hc nl) C2) (wsOf hm (LaM ca hm) N) [] K (ct_cn (k_X10_still x.2.1 E D ca hm N  e2)) s_L_77 heM rfl rfl rfl ⟨by decide, by decide⟩ ⟨by omega, by omega⟩ (rest := [.int r]) (Nat.le_of_ble_eq_true rfl) _ rfl dL_law_655 (fun v w2 hB => ?_)
  obtain ⟨rfl, rfl⟩ := hB
  refine n_icmp_eq K 1418 dL_law_658 (by decide) (fun _ => ?_) (fun h => absurd rfl h)
  refine n_perm _ List.perm_append_comm ?_
  refine n_wid (108 + 2 * (t + 1)) (6870 + 99 * (t + 1)) (by omega) (by omega) ?_
  exact kk nl hc C2 N2 hr2 (by omega) rfl
theorem s_L_78 : CsV RL 78 yX9_birth cX9_birth 4 (some .int) 3 := ⟨TB_t 556 (by decide +kernel) (by decide +kernel), TB_t 1 (by decide +kernel) (by decide +kernel), TB_t 553 (by decide +kernel) (by decide +kernel), TB_t 554 (by decide +kernel) (by decide +kernel), TB_t 555 (by decide +kernel) (by decide +kernel), by decide +kernel, by decide +kernel, by decide +kernel⟩
theorem s_L_81 : CsV RL 81 yX10_birth cX10_birth 8 (some .int) 3 := ⟨TB_t 1272 (by decide +kernel) (by decide +kernel), TB_t 13 (by decide +kernel) (by decide +kernel), TB_t 1269 (by decide +kernel) (by decide +kernel), TB_t 1270 (by decide +kernel) (by decide +kernel), TB_t 1271 (by decide +kernel) (by decide +kernel), by decide +kernel, by decide +kernel, by decide +kernel⟩
theorem lw_c15 {x : En} {E : Amd} {D : va_G} {ca : Nat → ClassId} {b L : Nat} {xs : Nat → Int32} {nl t : Nat} {hc hm : Nat → Nat} {C N : Mem} (K : Kn x E D ca RL cL_law 4 2048 84000 600000 7302250) (hs : Sc x b L xs) (hL : L ≤ 3072) (hb : 6 * t + 6 ≤ L) (hnl : nl ≤ t) (hr : Rel nl C N) (kk : ∀ (nl2 : Nat) (hc2 : Nat → Nat) (C2 N2 : Mem), Rel nl2 C2 N2 → nl2 ≤ nl + 1 → hc2 0 = hc 0 → Gn x D 4 (wsOf hm (LaM ca hm) N2 ++ wsOf hc2 (LaC ca hc2 nl2) C2) (108 + 2 * (t + 1)) (6870 + 99 * (t + 1)) 1418 (VL b hc hm t) []) : Gn x D 4 (wsOf hm (LaM ca hm) N ++ wsOf hc (LaC ca hc nl) C) (108 + 2 * t) (6870 + 99 * t) 663 (VL b hc hm t) [] := by
  obtain ⟨r, C2, N2, e1, e2, hr2⟩ := birth_s hr (xs (6 * t + 1)) (xs (6 * t + 2)) (xs (6 * t + 3))
  refine n_aload_n K 1 dL_law_663 rfl rfl ?_
  refine n_arg 1 (by decide) (by decide +kernel) K hs hL hb rfl rfl dL_law_664 dL_law_665 dL_law_666 dL_law_667 dL_law_668 ?_
  refine n_arg 2 (by decide) (by decide +kernel) K hs hL hb rfl rfl dL_law_669 dL_law_670 dL_law_671 dL_law_672 dL_law_673 ?_
  refine n_arg 3 (by decide) (by decide +kernel) K hs hL hb rfl rfl dL_law_674 dL_law_675 dL_law_676 dL_law_677 dL_law_678 ?_
  refine n_callV (nc := 108 + 2 * t) (ns := 6870 + 99 * t) (wsOf hm (LaM ca hm) N) (wsOf hc (LaC ca hc nl) C) [.int (xs (6 * t + 1)), .int (xs (6 * t + 2)), .int (xs (6 * t + 3))] K (ct_cn (k_X9_birth x.2.1 E D ca hc nl C (xs (6 * t + 1)) (xs (6 * t + 2)) (xs (6 * t + 3)) e1)) s_L_78 heC rfl rfl rfl ⟨by decide, by decide⟩ ⟨by omega, by omega⟩ (rest := []) (Nat.le_of_ble_eq_true rfl) _ rfl dL_law_679 (fun v w2 hB => ?_)
  obtain ⟨rfl, rfl⟩ := hB
  refine n_perm _ List.perm_append_comm ?_
  refine n_aload_n K 2 dL_law_682 rfl rfl ?_
  refine n_arg 1 (by decide) (by decide +kernel) K hs hL hb rfl rfl dL_law_683 dL_law_684 dL_law_685 dL_law_686 dL_law_687 ?_
  refine n_arg 2 (by decide) (by decide +kernel) K hs hL hb rfl rfl dL_law_688 dL_law_689 dL_law_690 dL_law_691 dL_law_692 ?_
  refine n_arg 3 (by decide) (by decide +kernel) K hs hL hb rfl rfl dL_law_693 dL_law_694 dL_law_695 dL_law_696 dL_law_697 ?_
  refine n_callV (nc := 108 + 2 * t + 0) (ns := 6870 + 99 * t + 0) (wsOf hc (LaC ca hc nl) C2) (wsOf hm (LaM ca hm) N) [.int (xs (6 * t + 1)), .int (xs (6 * t + 2)), .int (xs (6 * t + 3))] K (ct_cn (k_X10_birth x.2.1 E D ca hm N (xs (6 * t + 1)) (xs (6 * t + 2)) (xs (6 * t + 3)) e2)) s_L_81 heM rfl rfl rfl ⟨by decide, by decide⟩ ⟨by omega, by omega⟩ (rest := [.int r]) (Nat.le_of_ble_eq_true rfl) _ rfl dL_law_698 (fun v w2 hB => ?_)
  obtain ⟨rfl, rfl⟩ := hB
  refine n_icmp_eq K 1418 dL_law_701 (by decide) (fun _ => ?_) (fun h => absurd rfl h)
  refine n_perm _ List.perm_append_comm ?_
  refine n_wid (108 + 2 * (t + 1)) (6870 + 99 * (t + 1)) (by omega) (by omega) ?_
  exact kk nl hc C2 N2 hr2 (by omega) rfl
theorem s_L_82 : CsV RL 82 yX9_smells cX9_smells 3 (some .int) 2 := ⟨TB_t 570 (by decide +kernel) (by decide +kernel), TB_t 1 (by decide +kernel) (by decide +kernel), TB_t 567 (by decide +kernel) (by decide +kernel), TB_t 568 (by decide +kernel) (by decide +kernel), TB_t 569 (by decide +kernel) (by decide +kernel), by decide +kernel, by decide +kernel, by decide +kernel⟩
theorem s_L_85 : CsV RL 85 yX10_smells cX10_smells 6 (some .int) 2 := ⟨TB_t 1283 (by decide +kernel) (by decide +kernel), TB_t 13 (by decide +kernel) (by decide +kernel), TB_t 1280 (by decide +kernel) (by decide +kernel), TB_t 1281 (by decide +kernel) (by decide +kernel), TB_t 1282 (by decide +kernel) (by decide +kernel), by decide +kernel, by decide +kernel, by decide +kernel⟩
theorem lw_c16 {x : En} {E : Amd} {D : va_G} {ca : Nat → ClassId} {b L : Nat} {xs : Nat → Int32} {nl t : Nat} {hc hm : Nat → Nat} {C N : Mem} (K : Kn x E D ca RL cL_law 4 2048 84000 600000 7302250) (hs : Sc x b L xs) (hL : L ≤ 3072) (hb : 6 * t + 6 ≤ L) (hnl : nl ≤ t) (hr : Rel nl C N) (kk : ∀ (nl2 : Nat) (hc2 : Nat → Nat) (C2 N2 : Mem), Rel nl2 C2 N2 → nl2 ≤ nl + 1 → hc2 0 = hc 0 → Gn x D 4 (wsOf hm (LaM ca hm) N2 ++ wsOf hc2 (LaC ca hc2 nl2) C2) (108 + 2 * (t + 1)) (6870 + 99 * (t + 1)) 1418 (VL b hc hm t) []) : Gn x D 4 (wsOf hm (LaM ca hm) N ++ wsOf hc (LaC ca hc nl) C) (108 + 2 * t) (6870 + 99 * t) 706 (VL b hc hm t) [] := by
  obtain ⟨r, C2, N2, e1, e2, hr2⟩ := smells_s hr (xs (6 * t + 1)) (xs (6 * t + 2))
  refine n_aload_n K 1 dL_law_706 rfl rfl ?_
  refine n_arg 1 (by decide) (by decide +kernel) K hs hL hb rfl rfl dL_law_707 dL_law_708 dL_law_709 dL_law_710 dL_law_711 ?_
  refine n_arg 2 (by decide) (by decide +kernel) K hs hL hb rfl rfl dL_law_712 dL_law_713 dL_law_714 dL_law_715 dL_law_716 ?_
  refine n_callV (nc := 108 + 2 * t) (ns := 6870 + 99 * t) (wsOf hm (LaM ca hm) N) (wsOf hc (LaC ca hc nl) C) [.int (xs (6 * t + 1)), .int (xs (6 * t + 2))] K (ct_cn (k_X9_smells x.2.1 E D ca hc nl C (xs (6 * t + 1)) (xs (6 * t + 2)) e1)) s_L_82 heC rfl rfl rfl ⟨by decide, by decide⟩ ⟨by omega, by omega⟩ (rest := []) (Nat.le_of_ble_eq_true rfl) _ rfl dL_law_717 (fun v w2 hB => ?_)
  obtain ⟨rfl, rfl⟩ := hB
  refine n_perm _ List.perm_append_comm ?_
  refine n_aload_n K 2 dL_law_720 rfl rfl ?_
  refine n_arg 1 (by decide) (by decide +kernel) K hs hL hb rfl rfl dL_law_721 dL_law_722 dL_law_723 dL_law_724 dL_law_725 ?_
  refine n_arg 2 (by decide) (by decide +kernel) K hs hL hb rfl rfl dL_law_726 dL_law_727 dL_law_728 dL_law_729 dL_law_730 ?_
  refine n_callV (nc := 108 + 2 * t + 0) (ns := 6870 + 99 * t + 0) (wsOf hc (LaC ca hc nl) C2) (wsOf hm (LaM ca hm) N) [.int (xs (6 * t + 1)), .int (xs (6 * t + 2))] K (ct_cn (k_X10_smells x.2.1 E D ca hm N (xs (6 * t + 1)) (xs (6 * t + 2)) e2)) s_L_85 heM rfl rfl rfl ⟨by decide, by decide⟩ ⟨by omega, by omega⟩ (rest := [.int r]) (Nat.le_of_ble_eq_true rfl) _ rfl dL_law_731 (fun v w2 hB => ?_)
  obtain ⟨rfl, rfl⟩ := hB
  refine n_icmp_eq K 1418 dL_law_734 (by decide) (fun _ => ?_) (fun h => absurd rfl h)
  refine n_perm _ List.perm_append_comm ?_
  refine n_wid (108 + 2 * (t + 1)) (6870 + 99 * (t + 1)) (by omega) (by omega) ?_
  exact kk nl hc C2 N2 hr2 (by omega) rfl
theorem s_L_86 : CsV RL 86 yX9_snuffs cX9_snuffs 3 (some .int) 2 := ⟨TB_t 580 (by decide +kernel) (by decide +kernel), TB_t 1 (by decide +kernel) (by decide +kernel), TB_t 577 (by decide +kernel) (by decide +kernel), TB_t 578 (by decide +kernel) (by decide +kernel), TB_t 579 (by decide +kernel) (by decide +kernel), by decide +kernel, by decide +kernel, by decide +kernel⟩
theorem s_L_89 : CsV RL 89 yX10_snuffs cX10_snuffs 4 (some .int) 2 := ⟨TB_t 1287 (by decide +kernel) (by decide +kernel), TB_t 13 (by decide +kernel) (by decide +kernel), TB_t 1284 (by decide +kernel) (by decide +kernel), TB_t 1285 (by decide +kernel) (by decide +kernel), TB_t 1286 (by decide +kernel) (by decide +kernel), by decide +kernel, by decide +kernel, by decide +kernel⟩
theorem lw_c17 {x : En} {E : Amd} {D : va_G} {ca : Nat → ClassId} {b L : Nat} {xs : Nat → Int32} {nl t : Nat} {hc hm : Nat → Nat} {C N : Mem} (K : Kn x E D ca RL cL_law 4 2048 84000 600000 7302250) (hs : Sc x b L xs) (hL : L ≤ 3072) (hb : 6 * t + 6 ≤ L) (hnl : nl ≤ t) (hr : Rel nl C N) (kk : ∀ (nl2 : Nat) (hc2 : Nat → Nat) (C2 N2 : Mem), Rel nl2 C2 N2 → nl2 ≤ nl + 1 → hc2 0 = hc 0 → Gn x D 4 (wsOf hm (LaM ca hm) N2 ++ wsOf hc2 (LaC ca hc2 nl2) C2) (108 + 2 * (t + 1)) (6870 + 99 * (t + 1)) 1418 (VL b hc hm t) []) : Gn x D 4 (wsOf hm (LaM ca hm) N ++ wsOf hc (LaC ca hc nl) C) (108 + 2 * t) (6870 + 99 * t) 739 (VL b hc hm t) [] := by
  obtain ⟨r, C2, N2, e1, e2, hr2⟩ := snuffs_s (by omega) hr (xs (6 * t + 1)) (xs (6 * t + 2))
  refine n_aload_n K 1 dL_law_739 rfl rfl ?_
  refine n_arg 1 (by decide) (by decide +kernel) K hs hL hb rfl rfl dL_law_740 dL_law_741 dL_law_742 dL_law_743 dL_law_744 ?_
  refine n_arg 2 (by decide) (by decide +kernel) K hs hL hb rfl rfl dL_law_745 dL_law_746 dL_law_747 dL_law_748 dL_law_749 ?_
  refine n_callV (nc := 108 + 2 * t) (ns := 6870 + 99 * t) (wsOf hm (LaM ca hm) N) (wsOf hc (LaC ca hc nl) C) [.int (xs (6 * t + 1)), .int (xs (6 * t + 2))] K (ct_cn (k_X9_snuffs x.2.1 E D ca hc nl C (xs (6 * t + 1)) (xs (6 * t + 2)) e1)) s_L_86 heC rfl rfl rfl ⟨by decide, by decide⟩ ⟨by omega, by omega⟩ (rest := []) (Nat.le_of_ble_eq_true rfl) _ rfl dL_law_750 (fun v w2 hB => ?_)
  obtain ⟨rfl, rfl⟩ := hB
  refine n_perm _ List.perm_append_comm ?_
  refine n_aload_n K 2 dL_law_753 rfl rfl ?_
  refine n_arg 1 (by decide) (by decide +kernel) K hs hL hb rfl rfl dL_law_754 dL_law_755 dL_law_756 dL_law_757 dL_law_758 ?_
  refine n_arg 2 (by decide) (by decide +kernel) K hs hL hb rfl rfl dL_law_759 dL_law_760 dL_law_761 dL_law_762 dL_law_763 ?_
  refine n_callV (nc := 108 + 2 * t + 0) (ns := 6870 + 99 * t + 0) (wsOf hc (LaC ca hc nl) C2) (wsOf hm (LaM ca hm) N) [.int (xs (6 * t + 1)), .int (xs (6 * t + 2))] K (ct_cn (k_X10_snuffs x.2.1 E D ca hm N (xs (6 * t + 1)) (xs (6 * t + 2)) e2)) s_L_89 heM rfl rfl rfl ⟨by decide, by decide⟩ ⟨by omega, by omega⟩ (rest := [.int r]) (Nat.le_of_ble_eq_true rfl) _ rfl dL_law_764 (fun v w2 hB => ?_)
  obtain ⟨rfl, rfl⟩ := hB
  refine n_icmp_eq K 1418 dL_law_767 (by decide) (fun _ => ?_) (fun h => absurd rfl h)
  refine n_perm _ List.perm_append_comm ?_
  refine n_wid (108 + 2 * (t + 1)) (6870 + 99 * (t + 1)) (by omega) (by omega) ?_
  exact kk nl hc C2 N2 hr2 (by omega) rfl
theorem s_L_90 : CsV RL 90 yX9_storm cX9_storm 3 (some .int) 1 := ⟨TB_t 590 (by decide +kernel) (by decide +kernel), TB_t 1 (by decide +kernel) (by decide +kernel), TB_t 587 (by decide +kernel) (by decide +kernel), TB_t 588 (by decide +kernel) (by decide +kernel), TB_t 589 (by decide +kernel) (by decide +kernel), by decide +kernel, by decide +kernel, by decide +kernel⟩
theorem s_L_93 : CsV RL 93 yX10_storm cX10_storm 4 (some .int) 1 := ⟨TB_t 1295 (by decide +kernel) (by decide +kernel), TB_t 13 (by decide +kernel) (by decide +kernel), TB_t 1292 (by decide +kernel) (by decide +kernel), TB_t 1293 (by decide +kernel) (by decide +kernel), TB_t 1294 (by decide +kernel) (by decide +kernel), by decide +kernel, by decide +kernel, by decide +kernel⟩
theorem lw_c18 {x : En} {E : Amd} {D : va_G} {ca : Nat → ClassId} {b L : Nat} {xs : Nat → Int32} {nl t : Nat} {hc hm : Nat → Nat} {C N : Mem} (K : Kn x E D ca RL cL_law 4 2048 84000 600000 7302250) (hs : Sc x b L xs) (hL : L ≤ 3072) (hb : 6 * t + 6 ≤ L) (hnl : nl ≤ t) (hr : Rel nl C N) (kk : ∀ (nl2 : Nat) (hc2 : Nat → Nat) (C2 N2 : Mem), Rel nl2 C2 N2 → nl2 ≤ nl + 1 → hc2 0 = hc 0 → Gn x D 4 (wsOf hm (LaM ca hm) N2 ++ wsOf hc2 (LaC ca hc2 nl2) C2) (108 + 2 * (t + 1)) (6870 + 99 * (t + 1)) 1418 (VL b hc hm t) []) : Gn x D 4 (wsOf hm (LaM ca hm) N ++ wsOf hc (LaC ca hc nl) C) (108 + 2 * t) (6870 + 99 * t) 772 (VL b hc hm t) [] := by
  obtain ⟨r, C2, N2, e1, e2, hr2⟩ := storm_s (by omega) hr (xs (6 * t + 1))
  refine n_aload_n K 1 dL_law_772 rfl rfl ?_
  refine n_arg 1 (by decide) (by decide +kernel) K hs hL hb rfl rfl dL_law_773 dL_law_774 dL_law_775 dL_law_776 dL_law_777 ?_
  refine n_callV (nc := 108 + 2 * t) (ns := 6870 + 99 * t) (wsOf hm (LaM ca hm) N) (wsOf hc (LaC ca hc nl) C) [.int (xs (6 * t + 1))] K (ct_cn (k_X9_storm x.2.1 E D ca hc nl C (xs (6 * t + 1)) e1)) s_L_90 heC rfl rfl rfl ⟨by decide, by decide⟩ ⟨by omega, by omega⟩ (rest := []) (Nat.le_of_ble_eq_true rfl) _ rfl dL_law_778 (fun v w2 hB => ?_)
  obtain ⟨rfl, rfl⟩ := hB
  refine n_perm _ List.perm_append_comm ?_
  refine n_aload_n K 2 dL_law_781 rfl rfl ?_
  refine n_arg 1 (by decide) (by decide +kernel) K hs hL hb rfl rfl dL_law_782 dL_law_783 dL_law_784 dL_law_785 dL_law_786 ?_
  refine n_callV (nc := 108 + 2 * t + 0) (ns := 6870 + 99 * t + 0) (wsOf hc (LaC ca hc nl) C2) (wsOf hm (LaM ca hm) N) [.int (xs (6 * t + 1))] K (ct_cn (k_X10_storm x.2.1 E D ca hm N (xs (6 * t + 1)) e2)) s_L_93 heM rfl rfl rfl ⟨by decide, by decide⟩ ⟨by omega, by omega⟩ (rest := [.int r]) (Nat.le_of_ble_eq_true rfl) _ rfl dL_law_787 (fun v w2 hB => ?_)
  obtain ⟨rfl, rfl⟩ := hB
  refine n_icmp_eq K 1418 dL_law_790 (by decide) (fun _ => ?_) (fun h => absurd rfl h)
  refine n_perm _ List.perm_append_comm ?_
  refine n_wid (108 + 2 * (t + 1)) (6870 + 99 * (t + 1)) (by omega) (by omega) ?_
  exact kk nl hc C2 N2 hr2 (by omega) rfl
theorem s_L_94 : CsV RL 94 yX9_opened cX9_opened 5 (some .int) 3 := ⟨TB_t 599 (by decide +kernel) (by decide +kernel), TB_t 1 (by decide +kernel) (by decide +kernel), TB_t 596 (by decide +kernel) (by decide +kernel), TB_t 597 (by decide +kernel) (by decide +kernel), TB_t 598 (by decide +kernel) (by decide +kernel), by decide +kernel, by decide +kernel, by decide +kernel⟩
theorem s_L_97 : CsV RL 97 yX10_opened cX10_opened 10 (some .int) 3 := ⟨TB_t 1299 (by decide +kernel) (by decide +kernel), TB_t 13 (by decide +kernel) (by decide +kernel), TB_t 1296 (by decide +kernel) (by decide +kernel), TB_t 1297 (by decide +kernel) (by decide +kernel), TB_t 1298 (by decide +kernel) (by decide +kernel), by decide +kernel, by decide +kernel, by decide +kernel⟩
theorem lw_c19 {x : En} {E : Amd} {D : va_G} {ca : Nat → ClassId} {b L : Nat} {xs : Nat → Int32} {nl t : Nat} {hc hm : Nat → Nat} {C N : Mem} (K : Kn x E D ca RL cL_law 4 2048 84000 600000 7302250) (hs : Sc x b L xs) (hL : L ≤ 3072) (hb : 6 * t + 6 ≤ L) (hnl : nl ≤ t) (hr : Rel nl C N) (kk : ∀ (nl2 : Nat) (hc2 : Nat → Nat) (C2 N2 : Mem), Rel nl2 C2 N2 → nl2 ≤ nl + 1 → hc2 0 = hc 0 → Gn x D 4 (wsOf hm (LaM ca hm) N2 ++ wsOf hc2 (LaC ca hc2 nl2) C2) (108 + 2 * (t + 1)) (6870 + 99 * (t + 1)) 1418 (VL b hc hm t) []) : Gn x D 4 (wsOf hm (LaM ca hm) N ++ wsOf hc (LaC ca hc nl) C) (108 + 2 * t) (6870 + 99 * t) 795 (VL b hc hm t) [] := by
  obtain ⟨r, C2, N2, e1, e2, hr2⟩ := opened_s hr (xs (6 * t + 1)) (xs (6 * t + 2)) (xs (6 * t + 3))
  refine n_aload_n K 1 dL_law_795 rfl rfl ?_
  refine n_arg 1 (by decide) (by decide +kernel) K hs hL hb rfl rfl dL_law_796 dL_law_797 dL_law_798 dL_law_799 dL_law_800 ?_
  refine n_arg 2 (by decide) (by decide +kernel) K hs hL hb rfl rfl dL_law_801 dL_law_802 dL_law_803 dL_law_804 dL_law_805 ?_
  refine n_arg 3 (by decide) (by decide +kernel) K hs hL hb rfl rfl dL_law_806 dL_law_807 dL_law_808 dL_law_809 dL_law_810 ?_
  refine n_callV (nc := 108 + 2 * t) (ns := 6870 + 99 * t) (wsOf hm (LaM ca hm) N) (wsOf hc (LaC ca hc nl) C) [.int (xs (6 * t + 1)), .int (xs (6 * t + 2)), .int (xs (6 * t + 3))] K (ct_cn (k_X9_opened x.2.1 E D ca hc nl C (xs (6 * t + 1)) (xs (6 * t + 2)) (xs (6 * t + 3)) e1)) s_L_94 heC rfl rfl rfl ⟨by decide, by decide⟩ ⟨by omega, by omega⟩ (rest := []) (Nat.le_of_ble_eq_true rfl) _ rfl dL_law_811 (fun v w2 hB => ?_)
  obtain ⟨rfl, rfl⟩ := hB
  refine n_perm _ List.perm_append_comm ?_
  refine n_aload_n K 2 dL_law_814 rfl rfl ?_
  refine n_arg 1 (by decide) (by decide +kernel) K hs hL hb rfl rfl dL_law_815 dL_law_816 dL_law_817 dL_law_818 dL_law_819 ?_
  refine n_arg 2 (by decide) (by decide +kernel) K hs hL hb rfl rfl dL_law_820 dL_law_821 dL_law_822 dL_law_823 dL_law_824 ?_
  refine n_arg 3 (by decide) (by decide +kernel) K hs hL hb rfl rfl dL_law_825 dL_law_826 dL_law_827 dL_law_828 dL_law_829 ?_
  refine n_callV (nc := 108 + 2 * t + 0) (ns := 6870 + 99 * t + 0) (wsOf hc (LaC ca hc nl) C2) (wsOf hm (LaM ca hm) N) [.int (xs (6 * t + 1)), .int (xs (6 * t + 2)), .int (xs (6 * t + 3))] K (ct_cn (k_X10_opened x.2.1 E D ca hm N (xs (6 * t + 1)) (xs (6 * t + 2)) (xs (6 * t + 3)) e2)) s_L_97 heM rfl rfl rfl ⟨by decide, by decide⟩ ⟨by omega, by omega⟩ (rest := [.int r]) (Nat.le_of_ble_eq_true rfl) _ rfl dL_law_830 (fun v w2 hB => ?_)
  obtain ⟨rfl, rfl⟩ := hB
  refine n_icmp_eq K 1418 dL_law_833 (by decide) (fun _ => ?_) (fun h => absurd rfl h)
  refine n_perm _ List.perm_append_comm ?_
  refine n_wid (108 + 2 * (t + 1)) (6870 + 99 * (t + 1)) (by omega) (by omega) ?_
  exact kk nl hc C2 N2 hr2 (by omega) rfl
theorem s_L_98 : CsV RL 98 yX9_fine cX9_fine 1 (some .int) 0 := ⟨TB_t 632 (by decide +kernel) (by decide +kernel), TB_t 1 (by decide +kernel) (by decide +kernel), TB_t 629 (by decide +kernel) (by decide +kernel), TB_t 630 (by decide +kernel) (by decide +kernel), TB_t 631 (by decide +kernel) (by decide +kernel), by decide +kernel, by decide +kernel, by decide +kernel⟩
theorem s_L_101 : CsV RL 101 yX10_fine cX10_fine 2 (some .int) 0 := ⟨TB_t 1311 (by decide +kernel) (by decide +kernel), TB_t 13 (by decide +kernel) (by decide +kernel), TB_t 1308 (by decide +kernel) (by decide +kernel), TB_t 1309 (by decide +kernel) (by decide +kernel), TB_t 1310 (by decide +kernel) (by decide +kernel), by decide +kernel, by decide +kernel, by decide +kernel⟩
theorem lw_c20 {x : En} {E : Amd} {D : va_G} {ca : Nat → ClassId} {b L : Nat} {xs : Nat → Int32} {nl t : Nat} {hc hm : Nat → Nat} {C N : Mem} (K : Kn x E D ca RL cL_law 4 2048 84000 600000 7302250) (hs : Sc x b L xs) (hL : L ≤ 3072) (hb : 6 * t + 6 ≤ L) (hnl : nl ≤ t) (hr : Rel nl C N) (kk : ∀ (nl2 : Nat) (hc2 : Nat → Nat) (C2 N2 : Mem), Rel nl2 C2 N2 → nl2 ≤ nl + 1 → hc2 0 = hc 0 → Gn x D 4 (wsOf hm (LaM ca hm) N2 ++ wsOf hc2 (LaC ca hc2 nl2) C2) (108 + 2 * (t + 1)) (6870 + 99 * (t + 1)) 1418 (VL b hc hm t) []) : Gn x D 4 (wsOf hm (LaM ca hm) N ++ wsOf hc (LaC ca hc nl) C) (108 + 2 * t) (6870 + 99 * t) 838 (VL b hc hm t) [] := by
  obtain ⟨r, C2, N2, e1, e2, hr2⟩ := fine_s (by omega) hr 
  refine n_aload_n K 1 dL_law_838 rfl rfl ?_
  refine n_callV (nc := 108 + 2 * t) (ns := 6870 + 99 * t) (wsOf hm (LaM ca hm) N) (wsOf hc (LaC ca hc nl) C) [] K (ct_cn (k_X9_fine x.2.1 E D ca hc nl C  e1)) s_L_98 heC rfl rfl rfl ⟨by decide, by decide⟩ ⟨by omega, by omega⟩ (rest := []) (Nat.le_of_ble_eq_true rfl) _ rfl dL_law_839 (fun v w2 hB => ?_)
  obtain ⟨rfl, rfl⟩ := hB
  refine n_perm _ List.perm_append_comm ?_
  refine n_aload_n K 2 dL_law_842 rfl rfl ?_
  refine n_callV (nc := 108 + 2 * t + 0) (ns := 6870 + 99 * t + 0) (wsOf hc (LaC ca hc nl) C2) (wsOf hm (LaM ca hm) N) [] K (ct_cn (k_X10_fine x.2.1 E D ca hm N  e2)) s_L_101 heM rfl rfl rfl ⟨by decide, by decide⟩ ⟨by omega, by omega⟩ (rest := [.int r]) (Nat.le_of_ble_eq_true rfl) _ rfl dL_law_843 (fun v w2 hB => ?_)
  obtain ⟨rfl, rfl⟩ := hB
  refine n_icmp_eq K 1418 dL_law_846 (by decide) (fun _ => ?_) (fun h => absurd rfl h)
  refine n_perm _ List.perm_append_comm ?_
  refine n_wid (108 + 2 * (t + 1)) (6870 + 99 * (t + 1)) (by omega) (by omega) ?_
  exact kk nl hc C2 N2 hr2 (by omega) rfl
theorem s_L_102 : CsV RL 102 yX9_feed cX9_feed 4 (some .int) 3 := ⟨TB_t 637 (by decide +kernel) (by decide +kernel), TB_t 1 (by decide +kernel) (by decide +kernel), TB_t 634 (by decide +kernel) (by decide +kernel), TB_t 635 (by decide +kernel) (by decide +kernel), TB_t 636 (by decide +kernel) (by decide +kernel), by decide +kernel, by decide +kernel, by decide +kernel⟩
theorem s_L_105 : CsV RL 105 yX10_feed cX10_feed 6 (some .int) 3 := ⟨TB_t 1315 (by decide +kernel) (by decide +kernel), TB_t 13 (by decide +kernel) (by decide +kernel), TB_t 1312 (by decide +kernel) (by decide +kernel), TB_t 1313 (by decide +kernel) (by decide +kernel), TB_t 1314 (by decide +kernel) (by decide +kernel), by decide +kernel, by decide +kernel, by decide +kernel⟩
theorem lw_c21 {x : En} {E : Amd} {D : va_G} {ca : Nat → ClassId} {b L : Nat} {xs : Nat → Int32} {nl t : Nat} {hc hm : Nat → Nat} {C N : Mem} (K : Kn x E D ca RL cL_law 4 2048 84000 600000 7302250) (hs : Sc x b L xs) (hL : L ≤ 3072) (hb : 6 * t + 6 ≤ L) (hnl : nl ≤ t) (hr : Rel nl C N) (kk : ∀ (nl2 : Nat) (hc2 : Nat → Nat) (C2 N2 : Mem), Rel nl2 C2 N2 → nl2 ≤ nl + 1 → hc2 0 = hc 0 → Gn x D 4 (wsOf hm (LaM ca hm) N2 ++ wsOf hc2 (LaC ca hc2 nl2) C2) (108 + 2 * (t + 1)) (6870 + 99 * (t + 1)) 1418 (VL b hc hm t) []) : Gn x D 4 (wsOf hm (LaM ca hm) N ++ wsOf hc (LaC ca hc nl) C) (108 + 2 * t) (6870 + 99 * t) 851 (VL b hc hm t) [] := by
  obtain ⟨r, C2, N2, e1, e2, hr2⟩ := feed_s hr (xs (6 * t + 1)) (xs (6 * t + 2)) (xs (6 * t + 3))
  refine n_aload_n K 1 dL_law_851 rfl rfl ?_
  refine n_arg 1 (by decide) (by decide +kernel) K hs hL hb rfl rfl dL_law_852 dL_law_853 dL_law_854 dL_law_855 dL_law_856 ?_
  refine n_arg 2 (by decide) (by decide +kernel) K hs hL hb rfl rfl dL_law_857 dL_law_858 dL_law_859 dL_law_860 dL_law_861 ?_
  refine n_arg 3 (by decide) (by decide +kernel) K hs hL hb rfl rfl dL_law_862 dL_law_863 dL_law_864 dL_law_865 dL_law_866 ?_
  refine n_callV (nc := 108 + 2 * t) (ns := 6870 + 99 * t) (wsOf hm (LaM ca hm) N) (wsOf hc (LaC ca hc nl) C) [.int (xs (6 * t + 1)), .int (xs (6 * t + 2)), .int (xs (6 * t + 3))] K (ct_cn (k_X9_feed x.2.1 E D ca hc nl C (xs (6 * t + 1)) (xs (6 * t + 2)) (xs (6 * t + 3)) e1)) s_L_102 heC rfl rfl rfl ⟨by decide, by decide⟩ ⟨by omega, by omega⟩ (rest := []) (Nat.le_of_ble_eq_true rfl) _ rfl dL_law_867 (fun v w2 hB => ?_)
  obtain ⟨rfl, rfl⟩ := hB
  refine n_perm _ List.perm_append_comm ?_
  refine n_aload_n K 2 dL_law_870 rfl rfl ?_
  refine n_arg 1 (by decide) (by decide +kernel) K hs hL hb rfl rfl dL_law_871 dL_law_872 dL_law_873 dL_law_874 dL_law_875 ?_
  refine n_arg 2 (by decide) (by decide +kernel) K hs hL hb rfl rfl dL_law_876 dL_law_877 dL_law_878 dL_law_879 dL_law_880 ?_
  refine n_arg 3 (by decide) (by decide +kernel) K hs hL hb rfl rfl dL_law_881 dL_law_882 dL_law_883 dL_law_884 dL_law_885 ?_
  refine n_callV (nc := 108 + 2 * t + 0) (ns := 6870 + 99 * t + 0) (wsOf hc (LaC ca hc nl) C2) (wsOf hm (LaM ca hm) N) [.int (xs (6 * t + 1)), .int (xs (6 * t + 2)), .int (xs (6 * t + 3))] K (ct_cn (k_X10_feed x.2.1 E D ca hm N (xs (6 * t + 1)) (xs (6 * t + 2)) (xs (6 * t + 3)) e2)) s_L_105 heM rfl rfl rfl ⟨by decide, by decide⟩ ⟨by omega, by omega⟩ (rest := [.int r]) (Nat.le_of_ble_eq_true rfl) _ rfl dL_law_886 (fun v w2 hB => ?_)
  obtain ⟨rfl, rfl⟩ := hB
  refine n_icmp_eq K 1418 dL_law_889 (by decide) (fun _ => ?_) (fun h => absurd rfl h)
  refine n_perm _ List.perm_append_comm ?_
  refine n_wid (108 + 2 * (t + 1)) (6870 + 99 * (t + 1)) (by omega) (by omega) ?_
  exact kk nl hc C2 N2 hr2 (by omega) rfl
theorem s_L_106 : CsV RL 106 yX9_trim cX9_trim 2 (some .int) 1 := ⟨TB_t 645 (by decide +kernel) (by decide +kernel), TB_t 1 (by decide +kernel) (by decide +kernel), TB_t 642 (by decide +kernel) (by decide +kernel), TB_t 643 (by decide +kernel) (by decide +kernel), TB_t 644 (by decide +kernel) (by decide +kernel), by decide +kernel, by decide +kernel, by decide +kernel⟩
theorem s_L_109 : CsV RL 109 yX10_trim cX10_trim 2 (some .int) 1 := ⟨TB_t 1319 (by decide +kernel) (by decide +kernel), TB_t 13 (by decide +kernel) (by decide +kernel), TB_t 1316 (by decide +kernel) (by decide +kernel), TB_t 1317 (by decide +kernel) (by decide +kernel), TB_t 1318 (by decide +kernel) (by decide +kernel), by decide +kernel, by decide +kernel, by decide +kernel⟩
theorem lw_c22 {x : En} {E : Amd} {D : va_G} {ca : Nat → ClassId} {b L : Nat} {xs : Nat → Int32} {nl t : Nat} {hc hm : Nat → Nat} {C N : Mem} (K : Kn x E D ca RL cL_law 4 2048 84000 600000 7302250) (hs : Sc x b L xs) (hL : L ≤ 3072) (hb : 6 * t + 6 ≤ L) (hnl : nl ≤ t) (hr : Rel nl C N) (kk : ∀ (nl2 : Nat) (hc2 : Nat → Nat) (C2 N2 : Mem), Rel nl2 C2 N2 → nl2 ≤ nl + 1 → hc2 0 = hc 0 → Gn x D 4 (wsOf hm (LaM ca hm) N2 ++ wsOf hc2 (LaC ca hc2 nl2) C2) (108 + 2 * (t + 1)) (6870 + 99 * (t + 1)) 1418 (VL b hc hm t) []) : Gn x D 4 (wsOf hm (LaM ca hm) N ++ wsOf hc (LaC ca hc nl) C) (108 + 2 * t) (6870 + 99 * t) 894 (VL b hc hm t) [] := by
  obtain ⟨r, C2, N2, e1, e2, hr2⟩ := trim_s hr (xs (6 * t + 1))
  refine n_aload_n K 1 dL_law_894 rfl rfl ?_
  refine n_arg 1 (by decide) (by decide +kernel) K hs hL hb rfl rfl dL_law_895 dL_law_896 dL_law_897 dL_law_898 dL_law_899 ?_
  refine n_callV (nc := 108 + 2 * t) (ns := 6870 + 99 * t) (wsOf hm (LaM ca hm) N) (wsOf hc (LaC ca hc nl) C) [.int (xs (6 * t + 1))] K (ct_cn (k_X9_trim x.2.1 E D ca hc nl C (xs (6 * t + 1)) e1)) s_L_106 heC rfl rfl rfl ⟨by decide, by decide⟩ ⟨by omega, by omega⟩ (rest := []) (Nat.le_of_ble_eq_true rfl) _ rfl dL_law_900 (fun v w2 hB => ?_)
  obtain ⟨rfl, rfl⟩ := hB
  refine n_perm _ List.perm_append_comm ?_
  refine n_aload_n K 2 dL_law_903 rfl rfl ?_
  refine n_arg 1 (by decide) (by decide +kernel) K hs hL hb rfl rfl dL_law_904 dL_law_905 dL_law_906 dL_law_907 dL_law_908 ?_
  refine n_callV (nc := 108 + 2 * t + 0) (ns := 6870 + 99 * t + 0) (wsOf hc (LaC ca hc nl) C2) (wsOf hm (LaM ca hm) N) [.int (xs (6 * t + 1))] K (ct_cn (k_X10_trim x.2.1 E D ca hm N (xs (6 * t + 1)) e2)) s_L_109 heM rfl rfl rfl ⟨by decide, by decide⟩ ⟨by omega, by omega⟩ (rest := [.int r]) (Nat.le_of_ble_eq_true rfl) _ rfl dL_law_909 (fun v w2 hB => ?_)
  obtain ⟨rfl, rfl⟩ := hB
  refine n_icmp_eq K 1418 dL_law_912 (by decide) (fun _ => ?_) (fun h => absurd rfl h)
  refine n_perm _ List.perm_append_comm ?_
  refine n_wid (108 + 2 * (t + 1)) (6870 + 99 * (t + 1)) (by omega) (by omega) ?_
  exact kk nl hc C2 N2 hr2 (by omega) rfl
theorem s_L_110 : CsV RL 110 yX9_text cX9_text 2 (some .int) 0 := ⟨TB_t 649 (by decide +kernel) (by decide +kernel), TB_t 1 (by decide +kernel) (by decide +kernel), TB_t 646 (by decide +kernel) (by decide +kernel), TB_t 647 (by decide +kernel) (by decide +kernel), TB_t 648 (by decide +kernel) (by decide +kernel), by decide +kernel, by decide +kernel, by decide +kernel⟩
theorem s_L_113 : CsV RL 113 yX10_text cX10_text 4 (some .int) 0 := ⟨TB_t 1323 (by decide +kernel) (by decide +kernel), TB_t 13 (by decide +kernel) (by decide +kernel), TB_t 1320 (by decide +kernel) (by decide +kernel), TB_t 1321 (by decide +kernel) (by decide +kernel), TB_t 1322 (by decide +kernel) (by decide +kernel), by decide +kernel, by decide +kernel, by decide +kernel⟩
theorem lw_c23 {x : En} {E : Amd} {D : va_G} {ca : Nat → ClassId} {b L : Nat} {xs : Nat → Int32} {nl t : Nat} {hc hm : Nat → Nat} {C N : Mem} (K : Kn x E D ca RL cL_law 4 2048 84000 600000 7302250) (hs : Sc x b L xs) (hL : L ≤ 3072) (hb : 6 * t + 6 ≤ L) (hnl : nl ≤ t) (hr : Rel nl C N) (kk : ∀ (nl2 : Nat) (hc2 : Nat → Nat) (C2 N2 : Mem), Rel nl2 C2 N2 → nl2 ≤ nl + 1 → hc2 0 = hc 0 → Gn x D 4 (wsOf hm (LaM ca hm) N2 ++ wsOf hc2 (LaC ca hc2 nl2) C2) (108 + 2 * (t + 1)) (6870 + 99 * (t + 1)) 1418 (VL b hc hm t) []) : Gn x D 4 (wsOf hm (LaM ca hm) N ++ wsOf hc (LaC ca hc nl) C) (108 + 2 * t) (6870 + 99 * t) 917 (VL b hc hm t) [] := by
  obtain ⟨nl2, r, C2, N2, e1, e2, hr2, hlo, hhi⟩ := text_s (by omega) hr
  refine n_aload_n K 1 dL_law_917 rfl rfl ?_
  refine n_callV (nc := 108 + 2 * t) (ns := 6870 + 99 * t) (wsOf hm (LaM ca hm) N) (wsOf hc (LaC ca hc nl) C) [] K (kn_text x.2.1 E D ca hc nl C (by omega) (fault_k hr) e1) s_L_110 heC rfl rfl rfl ⟨by decide, by decide⟩ ⟨by omega, by omega⟩ (rest := []) (Nat.le_of_ble_eq_true rfl) _ rfl dL_law_918 (fun v w2 hB => ?_)
  obtain ⟨rfl, hc2, hz, rfl⟩ := hB
  refine n_perm _ List.perm_append_comm ?_
  refine n_aload_n K 2 dL_law_921 rfl rfl ?_
  refine n_callV (nc := 108 + 2 * t + 2) (ns := 6870 + 99 * t + 99) (wsOf hc2 (LaC ca hc2 nl2) C2) (wsOf hm (LaM ca hm) N) [] K (ct_cn (k_X10_text x.2.1 E D ca hm N  e2)) s_L_113 heM rfl rfl rfl ⟨by decide, by decide⟩ ⟨by omega, by omega⟩ (rest := [.int r]) (Nat.le_of_ble_eq_true rfl) _ rfl dL_law_922 (fun v w2 hB => ?_)
  obtain ⟨rfl, rfl⟩ := hB
  refine n_icmp_eq K 1418 dL_law_925 (by decide) (fun _ => ?_) (fun h => absurd rfl h)
  refine n_perm _ List.perm_append_comm ?_
  refine n_wid (108 + 2 * (t + 1)) (6870 + 99 * (t + 1)) (by omega) (by omega) ?_
  exact kk nl2 hc2 C2 N2 hr2 (by omega) hz
theorem s_L_114 : CsV RL 114 yX9_textTold cX9_textTold 4 (some .int) 2 := ⟨TB_t 872 (by decide +kernel) (by decide +kernel), TB_t 1 (by decide +kernel) (by decide +kernel), TB_t 869 (by decide +kernel) (by decide +kernel), TB_t 870 (by decide +kernel) (by decide +kernel), TB_t 871 (by decide +kernel) (by decide +kernel), by decide +kernel, by decide +kernel, by decide +kernel⟩
theorem s_L_117 : CsV RL 117 yX10_textTold cX10_textTold 3 (some .int) 2 := ⟨TB_t 1370 (by decide +kernel) (by decide +kernel), TB_t 13 (by decide +kernel) (by decide +kernel), TB_t 1367 (by decide +kernel) (by decide +kernel), TB_t 1368 (by decide +kernel) (by decide +kernel), TB_t 1369 (by decide +kernel) (by decide +kernel), by decide +kernel, by decide +kernel, by decide +kernel⟩
theorem lw_c24 {x : En} {E : Amd} {D : va_G} {ca : Nat → ClassId} {b L : Nat} {xs : Nat → Int32} {nl t : Nat} {hc hm : Nat → Nat} {C N : Mem} (K : Kn x E D ca RL cL_law 4 2048 84000 600000 7302250) (hs : Sc x b L xs) (hL : L ≤ 3072) (hb : 6 * t + 6 ≤ L) (hnl : nl ≤ t) (hr : Rel nl C N) (kk : ∀ (nl2 : Nat) (hc2 : Nat → Nat) (C2 N2 : Mem), Rel nl2 C2 N2 → nl2 ≤ nl + 1 → hc2 0 = hc 0 → Gn x D 4 (wsOf hm (LaM ca hm) N2 ++ wsOf hc2 (LaC ca hc2 nl2) C2) (108 + 2 * (t + 1)) (6870 + 99 * (t + 1)) 1418 (VL b hc hm t) []) : Gn x D 4 (wsOf hm (LaM ca hm) N ++ wsOf hc (LaC ca hc nl) C) (108 + 2 * t) (6870 + 99 * t) 930 (VL b hc hm t) [] := by
  obtain ⟨r, C2, N2, e1, e2, hr2⟩ := textTold_s (by omega) hr (xs (6 * t + 1)) (xs (6 * t + 2))
  obtain ⟨f1, z1⟩ := withM_e e1
  subst z1
  obtain ⟨f2, z2⟩ := withM_e e2
  subst z2
  refine n_aload_n K 1 dL_law_930 rfl rfl ?_
  refine n_arg 1 (by decide) (by decide +kernel) K hs hL hb rfl rfl dL_law_931 dL_law_932 dL_law_933 dL_law_934 dL_law_935 ?_
  refine n_arg 2 (by decide) (by decide +kernel) K hs hL hb rfl rfl dL_law_936 dL_law_937 dL_law_938 dL_law_939 dL_law_940 ?_
  refine n_callV (nc := 108 + 2 * t) (ns := 6870 + 99 * t) (wsOf hm (LaM ca hm) N) (wsOf hc (LaC ca hc nl) C) [.int (xs (6 * t + 1)), .int (xs (6 * t + 2))] K (ct_cn (k_X9_textTold x.2.1 E D ca hc nl C (xs (6 * t + 1)) (xs (6 * t + 2)) f1)) s_L_114 heC rfl rfl rfl ⟨by decide, by decide⟩ ⟨by omega, by omega⟩ (rest := []) (Nat.le_of_ble_eq_true rfl) _ rfl dL_law_941 (fun v w2 hB => ?_)
  obtain ⟨rfl, rfl⟩ := hB
  refine n_perm _ List.perm_append_comm ?_
  refine n_aload_n K 2 dL_law_944 rfl rfl ?_
  refine n_arg 1 (by decide) (by decide +kernel) K hs hL hb rfl rfl dL_law_945 dL_law_946 dL_law_947 dL_law_948 dL_law_949 ?_
  refine n_arg 2 (by decide) (by decide +kernel) K hs hL hb rfl rfl dL_law_950 dL_law_951 dL_law_952 dL_law_953 dL_law_954 ?_
  refine n_callV (nc := 108 + 2 * t + 0) (ns := 6870 + 99 * t + 0) (wsOf hc (LaC ca hc nl) C) (wsOf hm (LaM ca hm) N) [.int (xs (6 * t + 1)), .int (xs (6 * t + 2))] K (ct_cn (k_X10_textTold x.2.1 E D ca hm N (xs (6 * t + 1)) (xs (6 * t + 2)) f2)) s_L_117 heM rfl rfl rfl ⟨by decide, by decide⟩ ⟨by omega, by omega⟩ (rest := [.int r]) (Nat.le_of_ble_eq_true rfl) _ rfl dL_law_955 (fun v w2 hB => ?_)
  obtain ⟨rfl, rfl⟩ := hB
  refine n_icmp_eq K 1418 dL_law_958 (by decide) (fun _ => ?_) (fun h => absurd rfl h)
  refine n_perm _ List.perm_append_comm ?_
  refine n_wid (108 + 2 * (t + 1)) (6870 + 99 * (t + 1)) (by omega) (by omega) ?_
  exact kk nl hc C N hr2 (by omega) rfl
theorem s_L_118 : CsV RL 118 yX9_why cX9_why 2 (some .int) 1 := ⟨TB_t 877 (by decide +kernel) (by decide +kernel), TB_t 1 (by decide +kernel) (by decide +kernel), TB_t 874 (by decide +kernel) (by decide +kernel), TB_t 875 (by decide +kernel) (by decide +kernel), TB_t 876 (by decide +kernel) (by decide +kernel), by decide +kernel, by decide +kernel, by decide +kernel⟩
theorem s_L_121 : CsV RL 121 yX10_why cX10_why 3 (some .int) 1 := ⟨TB_t 1374 (by decide +kernel) (by decide +kernel), TB_t 13 (by decide +kernel) (by decide +kernel), TB_t 1371 (by decide +kernel) (by decide +kernel), TB_t 1372 (by decide +kernel) (by decide +kernel), TB_t 1373 (by decide +kernel) (by decide +kernel), by decide +kernel, by decide +kernel, by decide +kernel⟩
theorem lw_c25 {x : En} {E : Amd} {D : va_G} {ca : Nat → ClassId} {b L : Nat} {xs : Nat → Int32} {nl t : Nat} {hc hm : Nat → Nat} {C N : Mem} (K : Kn x E D ca RL cL_law 4 2048 84000 600000 7302250) (hs : Sc x b L xs) (hL : L ≤ 3072) (hb : 6 * t + 6 ≤ L) (hnl : nl ≤ t) (hr : Rel nl C N) (kk : ∀ (nl2 : Nat) (hc2 : Nat → Nat) (C2 N2 : Mem), Rel nl2 C2 N2 → nl2 ≤ nl + 1 → hc2 0 = hc 0 → Gn x D 4 (wsOf hm (LaM ca hm) N2 ++ wsOf hc2 (LaC ca hc2 nl2) C2) (108 + 2 * (t + 1)) (6870 + 99 * (t + 1)) 1418 (VL b hc hm t) []) : Gn x D 4 (wsOf hm (LaM ca hm) N ++ wsOf hc (LaC ca hc nl) C) (108 + 2 * t) (6870 + 99 * t) 963 (VL b hc hm t) [] := by
  obtain ⟨r, C2, N2, e1, e2, hr2⟩ := why_s hr (xs (6 * t + 1))
  obtain ⟨f1, z1⟩ := withM_e e1
  subst z1
  obtain ⟨f2, z2⟩ := withM_e e2
  subst z2
  refine n_aload_n K 1 dL_law_963 rfl rfl ?_
  refine n_arg 1 (by decide) (by decide +kernel) K hs hL hb rfl rfl dL_law_964 dL_law_965 dL_law_966 dL_law_967 dL_law_968 ?_
  refine n_callV (nc := 108 + 2 * t) (ns := 6870 + 99 * t) (wsOf hm (LaM ca hm) N) (wsOf hc (LaC ca hc nl) C) [.int (xs (6 * t + 1))] K (ct_cn (k_X9_why x.2.1 E D ca hc nl C (xs (6 * t + 1)) f1)) s_L_118 heC rfl rfl rfl ⟨by decide, by decide⟩ ⟨by omega, by omega⟩ (rest := []) (Nat.le_of_ble_eq_true rfl) _ rfl dL_law_969 (fun v w2 hB => ?_)
  obtain ⟨rfl, rfl⟩ := hB
  refine n_perm _ List.perm_append_comm ?_
  refine n_aload_n K 2 dL_law_972 rfl rfl ?_
  refine n_arg 1 (by decide) (by decide +kernel) K hs hL hb rfl rfl dL_law_973 dL_law_974 dL_law_975 dL_law_976 dL_law_977 ?_
  refine n_callV (nc := 108 + 2 * t + 0) (ns := 6870 + 99 * t + 0) (wsOf hc (LaC ca hc nl) C) (wsOf hm (LaM ca hm) N) [.int (xs (6 * t + 1))] K (ct_cn (k_X10_why x.2.1 E D ca hm N (xs (6 * t + 1)) f2)) s_L_121 heM rfl rfl rfl ⟨by decide, by decide⟩ ⟨by omega, by omega⟩ (rest := [.int r]) (Nat.le_of_ble_eq_true rfl) _ rfl dL_law_978 (fun v w2 hB => ?_)
  obtain ⟨rfl, rfl⟩ := hB
  refine n_icmp_eq K 1418 dL_law_981 (by decide) (fun _ => ?_) (fun h => absurd rfl h)
  refine n_perm _ List.perm_append_comm ?_
  refine n_wid (108 + 2 * (t + 1)) (6870 + 99 * (t + 1)) (by omega) (by omega) ?_
  exact kk nl hc C N hr2 (by omega) rfl
theorem s_L_122 : CsV RL 122 yX9_sheet cX9_sheet 4 (some .int) 3 := ⟨TB_t 881 (by decide +kernel) (by decide +kernel), TB_t 1 (by decide +kernel) (by decide +kernel), TB_t 878 (by decide +kernel) (by decide +kernel), TB_t 879 (by decide +kernel) (by decide +kernel), TB_t 880 (by decide +kernel) (by decide +kernel), by decide +kernel, by decide +kernel, by decide +kernel⟩
theorem s_L_125 : CsV RL 125 yX10_sheet cX10_sheet 5 (some .int) 3 := ⟨TB_t 1378 (by decide +kernel) (by decide +kernel), TB_t 13 (by decide +kernel) (by decide +kernel), TB_t 1375 (by decide +kernel) (by decide +kernel), TB_t 1376 (by decide +kernel) (by decide +kernel), TB_t 1377 (by decide +kernel) (by decide +kernel), by decide +kernel, by decide +kernel, by decide +kernel⟩
theorem lw_c26 {x : En} {E : Amd} {D : va_G} {ca : Nat → ClassId} {b L : Nat} {xs : Nat → Int32} {nl t : Nat} {hc hm : Nat → Nat} {C N : Mem} (K : Kn x E D ca RL cL_law 4 2048 84000 600000 7302250) (hs : Sc x b L xs) (hL : L ≤ 3072) (hb : 6 * t + 6 ≤ L) (hnl : nl ≤ t) (hr : Rel nl C N) (kk : ∀ (nl2 : Nat) (hc2 : Nat → Nat) (C2 N2 : Mem), Rel nl2 C2 N2 → nl2 ≤ nl + 1 → hc2 0 = hc 0 → Gn x D 4 (wsOf hm (LaM ca hm) N2 ++ wsOf hc2 (LaC ca hc2 nl2) C2) (108 + 2 * (t + 1)) (6870 + 99 * (t + 1)) 1418 (VL b hc hm t) []) : Gn x D 4 (wsOf hm (LaM ca hm) N ++ wsOf hc (LaC ca hc nl) C) (108 + 2 * t) (6870 + 99 * t) 986 (VL b hc hm t) [] := by
  obtain ⟨r, C2, N2, e1, e2, hr2⟩ := sheet_s hr (xs (6 * t + 1)) (xs (6 * t + 2)) (xs (6 * t + 3))
  refine n_aload_n K 1 dL_law_986 rfl rfl ?_
  refine n_arg 1 (by decide) (by decide +kernel) K hs hL hb rfl rfl dL_law_987 dL_law_988 dL_law_989 dL_law_990 dL_law_991 ?_
  refine n_arg 2 (by decide) (by decide +kernel) K hs hL hb rfl rfl dL_law_992 dL_law_993 dL_law_994 dL_law_995 dL_law_996 ?_
  refine n_arg 3 (by decide) (by decide +kernel) K hs hL hb rfl rfl dL_law_997 dL_law_998 dL_law_999 dL_law_1000 dL_law_1001 ?_
  refine n_callV (nc := 108 + 2 * t) (ns := 6870 + 99 * t) (wsOf hm (LaM ca hm) N) (wsOf hc (LaC ca hc nl) C) [.int (xs (6 * t + 1)), .int (xs (6 * t + 2)), .int (xs (6 * t + 3))] K (ct_cn (k_X9_sheet x.2.1 E D ca hc nl C (xs (6 * t + 1)) (xs (6 * t + 2)) (xs (6 * t + 3)) e1)) s_L_122 heC rfl rfl rfl ⟨by decide, by decide⟩ ⟨by omega, by omega⟩ (rest := []) (Nat.le_of_ble_eq_true rfl) _ rfl dL_law_1002 (fun v w2 hB => ?_)
  obtain ⟨rfl, rfl⟩ := hB
  refine n_perm _ List.perm_append_comm ?_
  refine n_aload_n K 2 dL_law_1005 rfl rfl ?_
  refine n_arg 1 (by decide) (by decide +kernel) K hs hL hb rfl rfl dL_law_1006 dL_law_1007 dL_law_1008 dL_law_1009 dL_law_1010 ?_
  refine n_arg 2 (by decide) (by decide +kernel) K hs hL hb rfl rfl dL_law_1011 dL_law_1012 dL_law_1013 dL_law_1014 dL_law_1015 ?_
  refine n_arg 3 (by decide) (by decide +kernel) K hs hL hb rfl rfl dL_law_1016 dL_law_1017 dL_law_1018 dL_law_1019 dL_law_1020 ?_
  refine n_callV (nc := 108 + 2 * t + 0) (ns := 6870 + 99 * t + 0) (wsOf hc (LaC ca hc nl) C2) (wsOf hm (LaM ca hm) N) [.int (xs (6 * t + 1)), .int (xs (6 * t + 2)), .int (xs (6 * t + 3))] K (ct_cn (k_X10_sheet x.2.1 E D ca hm N (xs (6 * t + 1)) (xs (6 * t + 2)) (xs (6 * t + 3)) e2)) s_L_125 heM rfl rfl rfl ⟨by decide, by decide⟩ ⟨by omega, by omega⟩ (rest := [.int r]) (Nat.le_of_ble_eq_true rfl) _ rfl dL_law_1021 (fun v w2 hB => ?_)
  obtain ⟨rfl, rfl⟩ := hB
  refine n_icmp_eq K 1418 dL_law_1024 (by decide) (fun _ => ?_) (fun h => absurd rfl h)
  refine n_perm _ List.perm_append_comm ?_
  refine n_wid (108 + 2 * (t + 1)) (6870 + 99 * (t + 1)) (by omega) (by omega) ?_
  exact kk nl hc C2 N2 hr2 (by omega) rfl
theorem s_L_126 : CsV RL 126 yX9_mark cX9_mark 5 (some .int) 3 := ⟨TB_t 891 (by decide +kernel) (by decide +kernel), TB_t 1 (by decide +kernel) (by decide +kernel), TB_t 888 (by decide +kernel) (by decide +kernel), TB_t 889 (by decide +kernel) (by decide +kernel), TB_t 890 (by decide +kernel) (by decide +kernel), by decide +kernel, by decide +kernel, by decide +kernel⟩
theorem s_L_129 : CsV RL 129 yX10_mark cX10_mark 4 (some .int) 3 := ⟨TB_t 1383 (by decide +kernel) (by decide +kernel), TB_t 13 (by decide +kernel) (by decide +kernel), TB_t 1380 (by decide +kernel) (by decide +kernel), TB_t 1381 (by decide +kernel) (by decide +kernel), TB_t 1382 (by decide +kernel) (by decide +kernel), by decide +kernel, by decide +kernel, by decide +kernel⟩
theorem lw_c27 {x : En} {E : Amd} {D : va_G} {ca : Nat → ClassId} {b L : Nat} {xs : Nat → Int32} {nl t : Nat} {hc hm : Nat → Nat} {C N : Mem} (K : Kn x E D ca RL cL_law 4 2048 84000 600000 7302250) (hs : Sc x b L xs) (hL : L ≤ 3072) (hb : 6 * t + 6 ≤ L) (hnl : nl ≤ t) (hr : Rel nl C N) (kk : ∀ (nl2 : Nat) (hc2 : Nat → Nat) (C2 N2 : Mem), Rel nl2 C2 N2 → nl2 ≤ nl + 1 → hc2 0 = hc 0 → Gn x D 4 (wsOf hm (LaM ca hm) N2 ++ wsOf hc2 (LaC ca hc2 nl2) C2) (108 + 2 * (t + 1)) (6870 + 99 * (t + 1)) 1418 (VL b hc hm t) []) : Gn x D 4 (wsOf hm (LaM ca hm) N ++ wsOf hc (LaC ca hc nl) C) (108 + 2 * t) (6870 + 99 * t) 1029 (VL b hc hm t) [] := by
  obtain ⟨r, C2, N2, e1, e2, hr2⟩ := mark_s hr (xs (6 * t + 1)) (xs (6 * t + 2)) (xs (6 * t + 3))
  refine n_aload_n K 1 dL_law_1029 rfl rfl ?_
  refine n_arg 1 (by decide) (by decide +kernel) K hs hL hb rfl rfl dL_law_1030 dL_law_1031 dL_law_1032 dL_law_1033 dL_law_1034 ?_
  refine n_arg 2 (by decide) (by decide +kernel) K hs hL hb rfl rfl dL_law_1035 dL_law_1036 dL_law_1037 dL_law_1038 dL_law_1039 ?_
  refine n_arg 3 (by decide) (by decide +kernel) K hs hL hb rfl rfl dL_law_1040 dL_law_1041 dL_law_1042 dL_law_1043 dL_law_1044 ?_
  refine n_callV (nc := 108 + 2 * t) (ns := 6870 + 99 * t) (wsOf hm (LaM ca hm) N) (wsOf hc (LaC ca hc nl) C) [.int (xs (6 * t + 1)), .int (xs (6 * t + 2)), .int (xs (6 * t + 3))] K (ct_cn (k_X9_mark x.2.1 E D ca hc nl C (xs (6 * t + 1)) (xs (6 * t + 2)) (xs (6 * t + 3)) e1)) s_L_126 heC rfl rfl rfl ⟨by decide, by decide⟩ ⟨by omega, by omega⟩ (rest := []) (Nat.le_of_ble_eq_true rfl) _ rfl dL_law_1045 (fun v w2 hB => ?_)
  obtain ⟨rfl, rfl⟩ := hB
  refine n_perm _ List.perm_append_comm ?_
  refine n_aload_n K 2 dL_law_1048 rfl rfl ?_
  refine n_arg 1 (by decide) (by decide +kernel) K hs hL hb rfl rfl dL_law_1049 dL_law_1050 dL_law_1051 dL_law_1052 dL_law_1053 ?_
  refine n_arg 2 (by decide) (by decide +kernel) K hs hL hb rfl rfl dL_law_1054 dL_law_1055 dL_law_1056 dL_law_1057 dL_law_1058 ?_
  refine n_arg 3 (by decide) (by decide +kernel) K hs hL hb rfl rfl dL_law_1059 dL_law_1060 dL_law_1061 dL_law_1062 dL_law_1063 ?_
  refine n_callV (nc := 108 + 2 * t + 0) (ns := 6870 + 99 * t + 0) (wsOf hc (LaC ca hc nl) C2) (wsOf hm (LaM ca hm) N) [.int (xs (6 * t + 1)), .int (xs (6 * t + 2)), .int (xs (6 * t + 3))] K (ct_cn (k_X10_mark x.2.1 E D ca hm N (xs (6 * t + 1)) (xs (6 * t + 2)) (xs (6 * t + 3)) e2)) s_L_129 heM rfl rfl rfl ⟨by decide, by decide⟩ ⟨by omega, by omega⟩ (rest := [.int r]) (Nat.le_of_ble_eq_true rfl) _ rfl dL_law_1064 (fun v w2 hB => ?_)
  obtain ⟨rfl, rfl⟩ := hB
  refine n_icmp_eq K 1418 dL_law_1067 (by decide) (fun _ => ?_) (fun h => absurd rfl h)
  refine n_perm _ List.perm_append_comm ?_
  refine n_wid (108 + 2 * (t + 1)) (6870 + 99 * (t + 1)) (by omega) (by omega) ?_
  exact kk nl hc C2 N2 hr2 (by omega) rfl
theorem s_L_130 : CsV RL 130 yX9_pour cX9_pour 6 (some .int) 1 := ⟨TB_t 899 (by decide +kernel) (by decide +kernel), TB_t 1 (by decide +kernel) (by decide +kernel), TB_t 896 (by decide +kernel) (by decide +kernel), TB_t 897 (by decide +kernel) (by decide +kernel), TB_t 898 (by decide +kernel) (by decide +kernel), by decide +kernel, by decide +kernel, by decide +kernel⟩
theorem s_L_133 : CsV RL 133 yX10_pour cX10_pour 6 (some .int) 1 := ⟨TB_t 1390 (by decide +kernel) (by decide +kernel), TB_t 13 (by decide +kernel) (by decide +kernel), TB_t 1387 (by decide +kernel) (by decide +kernel), TB_t 1388 (by decide +kernel) (by decide +kernel), TB_t 1389 (by decide +kernel) (by decide +kernel), by decide +kernel, by decide +kernel, by decide +kernel⟩
theorem lw_c28 {x : En} {E : Amd} {D : va_G} {ca : Nat → ClassId} {b L : Nat} {xs : Nat → Int32} {nl t : Nat} {hc hm : Nat → Nat} {C N : Mem} (K : Kn x E D ca RL cL_law 4 2048 84000 600000 7302250) (hs : Sc x b L xs) (hL : L ≤ 3072) (hb : 6 * t + 6 ≤ L) (hnl : nl ≤ t) (hr : Rel nl C N) (kk : ∀ (nl2 : Nat) (hc2 : Nat → Nat) (C2 N2 : Mem), Rel nl2 C2 N2 → nl2 ≤ nl + 1 → hc2 0 = hc 0 → Gn x D 4 (wsOf hm (LaM ca hm) N2 ++ wsOf hc2 (LaC ca hc2 nl2) C2) (108 + 2 * (t + 1)) (6870 + 99 * (t + 1)) 1418 (VL b hc hm t) []) : Gn x D 4 (wsOf hm (LaM ca hm) N ++ wsOf hc (LaC ca hc nl) C) (108 + 2 * t) (6870 + 99 * t) 1072 (VL b hc hm t) [] := by
  obtain ⟨r, C2, N2, e1, e2, hr2⟩ := pour_s hr (xs (6 * t + 1))
  refine n_aload_n K 1 dL_law_1072 rfl rfl ?_
  refine n_arg 1 (by decide) (by decide +kernel) K hs hL hb rfl rfl dL_law_1073 dL_law_1074 dL_law_1075 dL_law_1076 dL_law_1077 ?_
  refine n_callV (nc := 108 + 2 * t) (ns := 6870 + 99 * t) (wsOf hm (LaM ca hm) N) (wsOf hc (LaC ca hc nl) C) [.int (xs (6 * t + 1))] K (ct_cn (k_X9_pour x.2.1 E D ca hc nl C (xs (6 * t + 1)) e1)) s_L_130 heC rfl rfl rfl ⟨by decide, by decide⟩ ⟨by omega, by omega⟩ (rest := []) (Nat.le_of_ble_eq_true rfl) _ rfl dL_law_1078 (fun v w2 hB => ?_)
  obtain ⟨rfl, rfl⟩ := hB
  refine n_perm _ List.perm_append_comm ?_
  refine n_aload_n K 2 dL_law_1081 rfl rfl ?_
  refine n_arg 1 (by decide) (by decide +kernel) K hs hL hb rfl rfl dL_law_1082 dL_law_1083 dL_law_1084 dL_law_1085 dL_law_1086 ?_
  refine n_callV (nc := 108 + 2 * t + 0) (ns := 6870 + 99 * t + 0) (wsOf hc (LaC ca hc nl) C2) (wsOf hm (LaM ca hm) N) [.int (xs (6 * t + 1))] K (ct_cn (k_X10_pour x.2.1 E D ca hm N (xs (6 * t + 1)) e2)) s_L_133 heM rfl rfl rfl ⟨by decide, by decide⟩ ⟨by omega, by omega⟩ (rest := [.int r]) (Nat.le_of_ble_eq_true rfl) _ rfl dL_law_1087 (fun v w2 hB => ?_)
  obtain ⟨rfl, rfl⟩ := hB
  refine n_icmp_eq K 1418 dL_law_1090 (by decide) (fun _ => ?_) (fun h => absurd rfl h)
  refine n_perm _ List.perm_append_comm ?_
  refine n_wid (108 + 2 * (t + 1)) (6870 + 99 * (t + 1)) (by omega) (by omega) ?_
  exact kk nl hc C2 N2 hr2 (by omega) rfl
theorem s_L_134 : CsV RL 134 yX9_reads cX9_reads 4 (some .int) 1 := ⟨TB_t 905 (by decide +kernel) (by decide +kernel), TB_t 1 (by decide +kernel) (by decide +kernel), TB_t 902 (by decide +kernel) (by decide +kernel), TB_t 903 (by decide +kernel) (by decide +kernel), TB_t 904 (by decide +kernel) (by decide +kernel), by decide +kernel, by decide +kernel, by decide +kernel⟩
theorem s_L_137 : CsV RL 137 yX10_reads cX10_reads 4 (some .int) 1 := ⟨TB_t 1394 (by decide +kernel) (by decide +kernel), TB_t 13 (by decide +kernel) (by decide +kernel), TB_t 1391 (by decide +kernel) (by decide +kernel), TB_t 1392 (by decide +kernel) (by decide +kernel), TB_t 1393 (by decide +kernel) (by decide +kernel), by decide +kernel, by decide +kernel, by decide +kernel⟩
theorem lw_c29 {x : En} {E : Amd} {D : va_G} {ca : Nat → ClassId} {b L : Nat} {xs : Nat → Int32} {nl t : Nat} {hc hm : Nat → Nat} {C N : Mem} (K : Kn x E D ca RL cL_law 4 2048 84000 600000 7302250) (hs : Sc x b L xs) (hL : L ≤ 3072) (hb : 6 * t + 6 ≤ L) (hnl : nl ≤ t) (hr : Rel nl C N) (kk : ∀ (nl2 : Nat) (hc2 : Nat → Nat) (C2 N2 : Mem), Rel nl2 C2 N2 → nl2 ≤ nl + 1 → hc2 0 = hc 0 → Gn x D 4 (wsOf hm (LaM ca hm) N2 ++ wsOf hc2 (LaC ca hc2 nl2) C2) (108 + 2 * (t + 1)) (6870 + 99 * (t + 1)) 1418 (VL b hc hm t) []) : Gn x D 4 (wsOf hm (LaM ca hm) N ++ wsOf hc (LaC ca hc nl) C) (108 + 2 * t) (6870 + 99 * t) 1095 (VL b hc hm t) [] := by
  obtain ⟨r, C2, N2, e1, e2, hr2⟩ := reads_s hr (xs (6 * t + 1))
  obtain ⟨f1, z1⟩ := withM_e e1
  subst z1
  obtain ⟨f2, z2⟩ := withM_e e2
  subst z2
  refine n_aload_n K 1 dL_law_1095 rfl rfl ?_
  refine n_arg 1 (by decide) (by decide +kernel) K hs hL hb rfl rfl dL_law_1096 dL_law_1097 dL_law_1098 dL_law_1099 dL_law_1100 ?_
  refine n_callV (nc := 108 + 2 * t) (ns := 6870 + 99 * t) (wsOf hm (LaM ca hm) N) (wsOf hc (LaC ca hc nl) C) [.int (xs (6 * t + 1))] K (ct_cn (k_X9_reads x.2.1 E D ca hc nl C (xs (6 * t + 1)) f1)) s_L_134 heC rfl rfl rfl ⟨by decide, by decide⟩ ⟨by omega, by omega⟩ (rest := []) (Nat.le_of_ble_eq_true rfl) _ rfl dL_law_1101 (fun v w2 hB => ?_)
  obtain ⟨rfl, rfl⟩ := hB
  refine n_perm _ List.perm_append_comm ?_
  refine n_aload_n K 2 dL_law_1104 rfl rfl ?_
  refine n_arg 1 (by decide) (by decide +kernel) K hs hL hb rfl rfl dL_law_1105 dL_law_1106 dL_law_1107 dL_law_1108 dL_law_1109 ?_
  refine n_callV (nc := 108 + 2 * t + 0) (ns := 6870 + 99 * t + 0) (wsOf hc (LaC ca hc nl) C) (wsOf hm (LaM ca hm) N) [.int (xs (6 * t + 1))] K (ct_cn (k_X10_reads x.2.1 E D ca hm N (xs (6 * t + 1)) f2)) s_L_137 heM rfl rfl rfl ⟨by decide, by decide⟩ ⟨by omega, by omega⟩ (rest := [.int r]) (Nat.le_of_ble_eq_true rfl) _ rfl dL_law_1110 (fun v w2 hB => ?_)
  obtain ⟨rfl, rfl⟩ := hB
  refine n_icmp_eq K 1418 dL_law_1113 (by decide) (fun _ => ?_) (fun h => absurd rfl h)
  refine n_perm _ List.perm_append_comm ?_
  refine n_wid (108 + 2 * (t + 1)) (6870 + 99 * (t + 1)) (by omega) (by omega) ?_
  exact kk nl hc C N hr2 (by omega) rfl
theorem s_L_138 : CsV RL 138 yX9_copy cX9_copy 8 (some .int) 5 := ⟨TB_t 909 (by decide +kernel) (by decide +kernel), TB_t 1 (by decide +kernel) (by decide +kernel), TB_t 906 (by decide +kernel) (by decide +kernel), TB_t 907 (by decide +kernel) (by decide +kernel), TB_t 908 (by decide +kernel) (by decide +kernel), by decide +kernel, by decide +kernel, by decide +kernel⟩
theorem s_L_142 : CsV RL 142 yX10_copy cX10_copy 7 (some .int) 5 := ⟨TB_t 1398 (by decide +kernel) (by decide +kernel), TB_t 13 (by decide +kernel) (by decide +kernel), TB_t 1395 (by decide +kernel) (by decide +kernel), TB_t 1396 (by decide +kernel) (by decide +kernel), TB_t 1397 (by decide +kernel) (by decide +kernel), by decide +kernel, by decide +kernel, by decide +kernel⟩
theorem lw_c30 {x : En} {E : Amd} {D : va_G} {ca : Nat → ClassId} {b L : Nat} {xs : Nat → Int32} {nl t : Nat} {hc hm : Nat → Nat} {C N : Mem} (K : Kn x E D ca RL cL_law 4 2048 84000 600000 7302250) (hs : Sc x b L xs) (hL : L ≤ 3072) (hb : 6 * t + 6 ≤ L) (hnl : nl ≤ t) (hr : Rel nl C N) (kk : ∀ (nl2 : Nat) (hc2 : Nat → Nat) (C2 N2 : Mem), Rel nl2 C2 N2 → nl2 ≤ nl + 1 → hc2 0 = hc 0 → Gn x D 4 (wsOf hm (LaM ca hm) N2 ++ wsOf hc2 (LaC ca hc2 nl2) C2) (108 + 2 * (t + 1)) (6870 + 99 * (t + 1)) 1418 (VL b hc hm t) []) : Gn x D 4 (wsOf hm (LaM ca hm) N ++ wsOf hc (LaC ca hc nl) C) (108 + 2 * t) (6870 + 99 * t) 1118 (VL b hc hm t) [] := by
  obtain ⟨r, C2, N2, e1, e2, hr2⟩ := copy_s hr (xs (6 * t + 1)) (xs (6 * t + 2)) (xs (6 * t + 3)) (xs (6 * t + 4)) (xs (6 * t + 5))
  refine n_aload_n K 1 dL_law_1118 rfl rfl ?_
  refine n_arg 1 (by decide) (by decide +kernel) K hs hL hb rfl rfl dL_law_1119 dL_law_1120 dL_law_1121 dL_law_1122 dL_law_1123 ?_
  refine n_arg 2 (by decide) (by decide +kernel) K hs hL hb rfl rfl dL_law_1124 dL_law_1125 dL_law_1126 dL_law_1127 dL_law_1128 ?_
  refine n_arg 3 (by decide) (by decide +kernel) K hs hL hb rfl rfl dL_law_1129 dL_law_1130 dL_law_1131 dL_law_1132 dL_law_1133 ?_
  refine n_arg 4 (by decide) (by decide +kernel) K hs hL hb rfl rfl dL_law_1134 dL_law_1135 dL_law_1136 dL_law_1137 dL_law_1138 ?_
  refine n_arg 5 (by decide) (by decide +kernel) K hs hL hb rfl rfl dL_law_1139 dL_law_1140 dL_law_1141 dL_law_1142 dL_law_1143 ?_
  refine n_callV (nc := 108 + 2 * t) (ns := 6870 + 99 * t) (wsOf hm (LaM ca hm) N) (wsOf hc (LaC ca hc nl) C) [.int (xs (6 * t + 1)), .int (xs (6 * t + 2)), .int (xs (6 * t + 3)), .int (xs (6 * t + 4)), .int (xs (6 * t + 5))] K (ct_cn (k_X9_copy x.2.1 E D ca hc nl C (xs (6 * t + 1)) (xs (6 * t + 2)) (xs (6 * t + 3)) (xs (6 * t + 4)) (xs (6 * t + 5)) e1)) s_L_138 heC rfl rfl rfl ⟨by decide, by decide⟩ ⟨by omega, by omega⟩ (rest := []) (Nat.le_of_ble_eq_true rfl) _ rfl dL_law_1144 (fun v w2 hB => ?_)
  obtain ⟨rfl, rfl⟩ := hB
  refine n_perm _ List.perm_append_comm ?_
  refine n_aload_n K 2 dL_law_1147 rfl rfl ?_
  refine n_arg 1 (by decide) (by decide +kernel) K hs hL hb rfl rfl dL_law_1148 dL_law_1149 dL_law_1150 dL_law_1151 dL_law_1152 ?_
  refine n_arg 2 (by decide) (by decide +kernel) K hs hL hb rfl rfl dL_law_1153 dL_law_1154 dL_law_1155 dL_law_1156 dL_law_1157 ?_
  refine n_arg 3 (by decide) (by decide +kernel) K hs hL hb rfl rfl dL_law_1158 dL_law_1159 dL_law_1160 dL_law_1161 dL_law_1162 ?_
  refine n_arg 4 (by decide) (by decide +kernel) K hs hL hb rfl rfl dL_law_1163 dL_law_1164 dL_law_1165 dL_law_1166 dL_law_1167 ?_
  refine n_arg 5 (by decide) (by decide +kernel) K hs hL hb rfl rfl dL_law_1168 dL_law_1169 dL_law_1170 dL_law_1171 dL_law_1172 ?_
  refine n_callV (nc := 108 + 2 * t + 0) (ns := 6870 + 99 * t + 0) (wsOf hc (LaC ca hc nl) C2) (wsOf hm (LaM ca hm) N) [.int (xs (6 * t + 1)), .int (xs (6 * t + 2)), .int (xs (6 * t + 3)), .int (xs (6 * t + 4)), .int (xs (6 * t + 5))] K (ct_cn (k_X10_copy x.2.1 E D ca hm N (xs (6 * t + 1)) (xs (6 * t + 2)) (xs (6 * t + 3)) (xs (6 * t + 4)) (xs (6 * t + 5)) e2)) s_L_142 heM rfl rfl rfl ⟨by decide, by decide⟩ ⟨by omega, by omega⟩ (rest := [.int r]) (Nat.le_of_ble_eq_true rfl) _ rfl dL_law_1173 (fun v w2 hB => ?_)
  obtain ⟨rfl, rfl⟩ := hB
  refine n_icmp_eq K 1418 dL_law_1176 (by decide) (fun _ => ?_) (fun h => absurd rfl h)
  refine n_perm _ List.perm_append_comm ?_
  refine n_wid (108 + 2 * (t + 1)) (6870 + 99 * (t + 1)) (by omega) (by omega) ?_
  exact kk nl hc C2 N2 hr2 (by omega) rfl
theorem s_L_143 : CsV RL 143 yX9_lay cX9_lay 6 (some .int) 3 := ⟨TB_t 918 (by decide +kernel) (by decide +kernel), TB_t 1 (by decide +kernel) (by decide +kernel), TB_t 915 (by decide +kernel) (by decide +kernel), TB_t 916 (by decide +kernel) (by decide +kernel), TB_t 917 (by decide +kernel) (by decide +kernel), by decide +kernel, by decide +kernel, by decide +kernel⟩
theorem s_L_146 : CsV RL 146 yX10_lay cX10_lay 6 (some .int) 3 := ⟨TB_t 1402 (by decide +kernel) (by decide +kernel), TB_t 13 (by decide +kernel) (by decide +kernel), TB_t 1399 (by decide +kernel) (by decide +kernel), TB_t 1400 (by decide +kernel) (by decide +kernel), TB_t 1401 (by decide +kernel) (by decide +kernel), by decide +kernel, by decide +kernel, by decide +kernel⟩
theorem lw_c31 {x : En} {E : Amd} {D : va_G} {ca : Nat → ClassId} {b L : Nat} {xs : Nat → Int32} {nl t : Nat} {hc hm : Nat → Nat} {C N : Mem} (K : Kn x E D ca RL cL_law 4 2048 84000 600000 7302250) (hs : Sc x b L xs) (hL : L ≤ 3072) (hb : 6 * t + 6 ≤ L) (hnl : nl ≤ t) (hr : Rel nl C N) (kk : ∀ (nl2 : Nat) (hc2 : Nat → Nat) (C2 N2 : Mem), Rel nl2 C2 N2 → nl2 ≤ nl + 1 → hc2 0 = hc 0 → Gn x D 4 (wsOf hm (LaM ca hm) N2 ++ wsOf hc2 (LaC ca hc2 nl2) C2) (108 + 2 * (t + 1)) (6870 + 99 * (t + 1)) 1418 (VL b hc hm t) []) : Gn x D 4 (wsOf hm (LaM ca hm) N ++ wsOf hc (LaC ca hc nl) C) (108 + 2 * t) (6870 + 99 * t) 1181 (VL b hc hm t) [] := by
  obtain ⟨r, C2, N2, e1, e2, hr2⟩ := lay_s hr (xs (6 * t + 1)) (xs (6 * t + 2)) (xs (6 * t + 3))
  refine n_aload_n K 1 dL_law_1181 rfl rfl ?_
  refine n_arg 1 (by decide) (by decide +kernel) K hs hL hb rfl rfl dL_law_1182 dL_law_1183 dL_law_1184 dL_law_1185 dL_law_1186 ?_
  refine n_arg 2 (by decide) (by decide +kernel) K hs hL hb rfl rfl dL_law_1187 dL_law_1188 dL_law_1189 dL_law_1190 dL_law_1191 ?_
  refine n_arg 3 (by decide) (by decide +kernel) K hs hL hb rfl rfl dL_law_1192 dL_law_1193 dL_law_1194 dL_law_1195 dL_law_1196 ?_
  refine n_callV (nc := 108 + 2 * t) (ns := 6870 + 99 * t) (wsOf hm (LaM ca hm) N) (wsOf hc (LaC ca hc nl) C) [.int (xs (6 * t + 1)), .int (xs (6 * t + 2)), .int (xs (6 * t + 3))] K (ct_cn (k_X9_lay x.2.1 E D ca hc nl C (xs (6 * t + 1)) (xs (6 * t + 2)) (xs (6 * t + 3)) e1)) s_L_143 heC rfl rfl rfl ⟨by decide, by decide⟩ ⟨by omega, by omega⟩ (rest := []) (Nat.le_of_ble_eq_true rfl) _ rfl dL_law_1197 (fun v w2 hB => ?_)
  obtain ⟨rfl, rfl⟩ := hB
  refine n_perm _ List.perm_append_comm ?_
  refine n_aload_n K 2 dL_law_1200 rfl rfl ?_
  refine n_arg 1 (by decide) (by decide +kernel) K hs hL hb rfl rfl dL_law_1201 dL_law_1202 dL_law_1203 dL_law_1204 dL_law_1205 ?_
  refine n_arg 2 (by decide) (by decide +kernel) K hs hL hb rfl rfl dL_law_1206 dL_law_1207 dL_law_1208 dL_law_1209 dL_law_1210 ?_
  refine n_arg 3 (by decide) (by decide +kernel) K hs hL hb rfl rfl dL_law_1211 dL_law_1212 dL_law_1213 dL_law_1214 dL_law_1215 ?_
  refine n_callV (nc := 108 + 2 * t + 0) (ns := 6870 + 99 * t + 0) (wsOf hc (LaC ca hc nl) C2) (wsOf hm (LaM ca hm) N) [.int (xs (6 * t + 1)), .int (xs (6 * t + 2)), .int (xs (6 * t + 3))] K (ct_cn (k_X10_lay x.2.1 E D ca hm N (xs (6 * t + 1)) (xs (6 * t + 2)) (xs (6 * t + 3)) e2)) s_L_146 heM rfl rfl rfl ⟨by decide, by decide⟩ ⟨by omega, by omega⟩ (rest := [.int r]) (Nat.le_of_ble_eq_true rfl) _ rfl dL_law_1216 (fun v w2 hB => ?_)
  obtain ⟨rfl, rfl⟩ := hB
  refine n_icmp_eq K 1418 dL_law_1219 (by decide) (fun _ => ?_) (fun h => absurd rfl h)
  refine n_perm _ List.perm_append_comm ?_
  refine n_wid (108 + 2 * (t + 1)) (6870 + 99 * (t + 1)) (by omega) (by omega) ?_
  exact kk nl hc C2 N2 hr2 (by omega) rfl
theorem s_L_147 : CsV RL 147 yX9_ask cX9_ask 4 (some .int) 2 := ⟨TB_t 934 (by decide +kernel) (by decide +kernel), TB_t 1 (by decide +kernel) (by decide +kernel), TB_t 931 (by decide +kernel) (by decide +kernel), TB_t 932 (by decide +kernel) (by decide +kernel), TB_t 933 (by decide +kernel) (by decide +kernel), by decide +kernel, by decide +kernel, by decide +kernel⟩
theorem s_L_150 : CsV RL 150 yX10_ask cX10_ask 3 (some .int) 2 := ⟨TB_t 1409 (by decide +kernel) (by decide +kernel), TB_t 13 (by decide +kernel) (by decide +kernel), TB_t 1406 (by decide +kernel) (by decide +kernel), TB_t 1407 (by decide +kernel) (by decide +kernel), TB_t 1408 (by decide +kernel) (by decide +kernel), by decide +kernel, by decide +kernel, by decide +kernel⟩
theorem lw_c32 {x : En} {E : Amd} {D : va_G} {ca : Nat → ClassId} {b L : Nat} {xs : Nat → Int32} {nl t : Nat} {hc hm : Nat → Nat} {C N : Mem} (K : Kn x E D ca RL cL_law 4 2048 84000 600000 7302250) (hs : Sc x b L xs) (hL : L ≤ 3072) (hb : 6 * t + 6 ≤ L) (hnl : nl ≤ t) (hr : Rel nl C N) (kk : ∀ (nl2 : Nat) (hc2 : Nat → Nat) (C2 N2 : Mem), Rel nl2 C2 N2 → nl2 ≤ nl + 1 → hc2 0 = hc 0 → Gn x D 4 (wsOf hm (LaM ca hm) N2 ++ wsOf hc2 (LaC ca hc2 nl2) C2) (108 + 2 * (t + 1)) (6870 + 99 * (t + 1)) 1418 (VL b hc hm t) []) : Gn x D 4 (wsOf hm (LaM ca hm) N ++ wsOf hc (LaC ca hc nl) C) (108 + 2 * t) (6870 + 99 * t) 1224 (VL b hc hm t) [] := by
  obtain ⟨r, C2, N2, e1, e2, hr2⟩ := ask_s hr (xs (6 * t + 1)) (xs (6 * t + 2))
  obtain ⟨f1, z1⟩ := withM_e e1
  subst z1
  obtain ⟨f2, z2⟩ := withM_e e2
  subst z2
  refine n_aload_n K 1 dL_law_1224 rfl rfl ?_
  refine n_arg 1 (by decide) (by decide +kernel) K hs hL hb rfl rfl dL_law_1225 dL_law_1226 dL_law_1227 dL_law_1228 dL_law_1229 ?_
  refine n_arg 2 (by decide) (by decide +kernel) K hs hL hb rfl rfl dL_law_1230 dL_law_1231 dL_law_1232 dL_law_1233 dL_law_1234 ?_
  refine n_callV (nc := 108 + 2 * t) (ns := 6870 + 99 * t) (wsOf hm (LaM ca hm) N) (wsOf hc (LaC ca hc nl) C) [.int (xs (6 * t + 1)), .int (xs (6 * t + 2))] K (ct_cn (k_X9_ask x.2.1 E D ca hc nl C (xs (6 * t + 1)) (xs (6 * t + 2)) f1)) s_L_147 heC rfl rfl rfl ⟨by decide, by decide⟩ ⟨by omega, by omega⟩ (rest := []) (Nat.le_of_ble_eq_true rfl) _ rfl dL_law_1235 (fun v w2 hB => ?_)
  obtain ⟨rfl, rfl⟩ := hB
  refine n_perm _ List.perm_append_comm ?_
  refine n_aload_n K 2 dL_law_1238 rfl rfl ?_
  refine n_arg 1 (by decide) (by decide +kernel) K hs hL hb rfl rfl dL_law_1239 dL_law_1240 dL_law_1241 dL_law_1242 dL_law_1243 ?_
  refine n_arg 2 (by decide) (by decide +kernel) K hs hL hb rfl rfl dL_law_1244 dL_law_1245 dL_law_1246 dL_law_1247 dL_law_1248 ?_
  refine n_callV (nc := 108 + 2 * t + 0) (ns := 6870 + 99 * t + 0) (wsOf hc (LaC ca hc nl) C) (wsOf hm (LaM ca hm) N) [.int (xs (6 * t + 1)), .int (xs (6 * t + 2))] K (ct_cn (k_X10_ask x.2.1 E D ca hm N (xs (6 * t + 1)) (xs (6 * t + 2)) f2)) s_L_150 heM rfl rfl rfl ⟨by decide, by decide⟩ ⟨by omega, by omega⟩ (rest := [.int r]) (Nat.le_of_ble_eq_true rfl) _ rfl dL_law_1249 (fun v w2 hB => ?_)
  obtain ⟨rfl, rfl⟩ := hB
  refine n_icmp_eq K 1418 dL_law_1252 (by decide) (fun _ => ?_) (fun h => absurd rfl h)
  refine n_perm _ List.perm_append_comm ?_
  refine n_wid (108 + 2 * (t + 1)) (6870 + 99 * (t + 1)) (by omega) (by omega) ?_
  exact kk nl hc C N hr2 (by omega) rfl
theorem s_L_151 : CsV RL 151 yX9_item cX9_item 4 (some .int) 2 := ⟨TB_t 938 (by decide +kernel) (by decide +kernel), TB_t 1 (by decide +kernel) (by decide +kernel), TB_t 935 (by decide +kernel) (by decide +kernel), TB_t 936 (by decide +kernel) (by decide +kernel), TB_t 937 (by decide +kernel) (by decide +kernel), by decide +kernel, by decide +kernel, by decide +kernel⟩
theorem s_L_154 : CsV RL 154 yX10_item cX10_item 4 (some .int) 2 := ⟨TB_t 1413 (by decide +kernel) (by decide +kernel), TB_t 13 (by decide +kernel) (by decide +kernel), TB_t 1410 (by decide +kernel) (by decide +kernel), TB_t 1411 (by decide +kernel) (by decide +kernel), TB_t 1412 (by decide +kernel) (by decide +kernel), by decide +kernel, by decide +kernel, by decide +kernel⟩
theorem lw_c33 {x : En} {E : Amd} {D : va_G} {ca : Nat → ClassId} {b L : Nat} {xs : Nat → Int32} {nl t : Nat} {hc hm : Nat → Nat} {C N : Mem} (K : Kn x E D ca RL cL_law 4 2048 84000 600000 7302250) (hs : Sc x b L xs) (hL : L ≤ 3072) (hb : 6 * t + 6 ≤ L) (hnl : nl ≤ t) (hr : Rel nl C N) (kk : ∀ (nl2 : Nat) (hc2 : Nat → Nat) (C2 N2 : Mem), Rel nl2 C2 N2 → nl2 ≤ nl + 1 → hc2 0 = hc 0 → Gn x D 4 (wsOf hm (LaM ca hm) N2 ++ wsOf hc2 (LaC ca hc2 nl2) C2) (108 + 2 * (t + 1)) (6870 + 99 * (t + 1)) 1418 (VL b hc hm t) []) : Gn x D 4 (wsOf hm (LaM ca hm) N ++ wsOf hc (LaC ca hc nl) C) (108 + 2 * t) (6870 + 99 * t) 1257 (VL b hc hm t) [] := by
  obtain ⟨r, C2, N2, e1, e2, hr2⟩ := item_s hr (xs (6 * t + 1)) (xs (6 * t + 2))
  obtain ⟨f1, z1⟩ := withM_e e1
  subst z1
  obtain ⟨f2, z2⟩ := withM_e e2
  subst z2
  refine n_aload_n K 1 dL_law_1257 rfl rfl ?_
  refine n_arg 1 (by decide) (by decide +kernel) K hs hL hb rfl rfl dL_law_1258 dL_law_1259 dL_law_1260 dL_law_1261 dL_law_1262 ?_
  refine n_arg 2 (by decide) (by decide +kernel) K hs hL hb rfl rfl dL_law_1263 dL_law_1264 dL_law_1265 dL_law_1266 dL_law_1267 ?_
  refine n_callV (nc := 108 + 2 * t) (ns := 6870 + 99 * t) (wsOf hm (LaM ca hm) N) (wsOf hc (LaC ca hc nl) C) [.int (xs (6 * t + 1)), .int (xs (6 * t + 2))] K (ct_cn (k_X9_item x.2.1 E D ca hc nl C (xs (6 * t + 1)) (xs (6 * t + 2)) f1)) s_L_151 heC rfl rfl rfl ⟨by decide, by decide⟩ ⟨by omega, by omega⟩ (rest := []) (Nat.le_of_ble_eq_true rfl) _ rfl dL_law_1268 (fun v w2 hB => ?_)
  obtain ⟨rfl, rfl⟩ := hB
  refine n_perm _ List.perm_append_comm ?_
  refine n_aload_n K 2 dL_law_1271 rfl rfl ?_
  refine n_arg 1 (by decide) (by decide +kernel) K hs hL hb rfl rfl dL_law_1272 dL_law_1273 dL_law_1274 dL_law_1275 dL_law_1276 ?_
  refine n_arg 2 (by decide) (by decide +kernel) K hs hL hb rfl rfl dL_law_1277 dL_law_1278 dL_law_1279 dL_law_1280 dL_law_1281 ?_
  refine n_callV (nc := 108 + 2 * t + 0) (ns := 6870 + 99 * t + 0) (wsOf hc (LaC ca hc nl) C) (wsOf hm (LaM ca hm) N) [.int (xs (6 * t + 1)), .int (xs (6 * t + 2))] K (ct_cn (k_X10_item x.2.1 E D ca hm N (xs (6 * t + 1)) (xs (6 * t + 2)) f2)) s_L_154 heM rfl rfl rfl ⟨by decide, by decide⟩ ⟨by omega, by omega⟩ (rest := [.int r]) (Nat.le_of_ble_eq_true rfl) _ rfl dL_law_1282 (fun v w2 hB => ?_)
  obtain ⟨rfl, rfl⟩ := hB
  refine n_icmp_eq K 1418 dL_law_1285 (by decide) (fun _ => ?_) (fun h => absurd rfl h)
  refine n_perm _ List.perm_append_comm ?_
  refine n_wid (108 + 2 * (t + 1)) (6870 + 99 * (t + 1)) (by omega) (by omega) ?_
  exact kk nl hc C N hr2 (by omega) rfl
theorem s_L_155 : CsV RL 155 yX9_rest cX9_rest 4 (some .int) 2 := ⟨TB_t 942 (by decide +kernel) (by decide +kernel), TB_t 1 (by decide +kernel) (by decide +kernel), TB_t 939 (by decide +kernel) (by decide +kernel), TB_t 940 (by decide +kernel) (by decide +kernel), TB_t 941 (by decide +kernel) (by decide +kernel), by decide +kernel, by decide +kernel, by decide +kernel⟩
theorem s_L_158 : CsV RL 158 yX10_rest cX10_rest 3 (some .int) 2 := ⟨TB_t 1417 (by decide +kernel) (by decide +kernel), TB_t 13 (by decide +kernel) (by decide +kernel), TB_t 1414 (by decide +kernel) (by decide +kernel), TB_t 1415 (by decide +kernel) (by decide +kernel), TB_t 1416 (by decide +kernel) (by decide +kernel), by decide +kernel, by decide +kernel, by decide +kernel⟩
theorem lw_c34 {x : En} {E : Amd} {D : va_G} {ca : Nat → ClassId} {b L : Nat} {xs : Nat → Int32} {nl t : Nat} {hc hm : Nat → Nat} {C N : Mem} (K : Kn x E D ca RL cL_law 4 2048 84000 600000 7302250) (hs : Sc x b L xs) (hL : L ≤ 3072) (hb : 6 * t + 6 ≤ L) (hnl : nl ≤ t) (hr : Rel nl C N) (kk : ∀ (nl2 : Nat) (hc2 : Nat → Nat) (C2 N2 : Mem), Rel nl2 C2 N2 → nl2 ≤ nl + 1 → hc2 0 = hc 0 → Gn x D 4 (wsOf hm (LaM ca hm) N2 ++ wsOf hc2 (LaC ca hc2 nl2) C2) (108 + 2 * (t + 1)) (6870 + 99 * (t + 1)) 1418 (VL b hc hm t) []) : Gn x D 4 (wsOf hm (LaM ca hm) N ++ wsOf hc (LaC ca hc nl) C) (108 + 2 * t) (6870 + 99 * t) 1290 (VL b hc hm t) [] := by
  obtain ⟨r, C2, N2, e1, e2, hr2⟩ := rest_s hr (xs (6 * t + 1)) (xs (6 * t + 2))
  obtain ⟨f1, z1⟩ := withM_e e1
  subst z1
  obtain ⟨f2, z2⟩ := withM_e e2
  subst z2
  refine n_aload_n K 1 dL_law_1290 rfl rfl ?_
  refine n_arg 1 (by decide) (by decide +kernel) K hs hL hb rfl rfl dL_law_1291 dL_law_1292 dL_law_1293 dL_law_1294 dL_law_1295 ?_
  refine n_arg 2 (by decide) (by decide +kernel) K hs hL hb rfl rfl dL_law_1296 dL_law_1297 dL_law_1298 dL_law_1299 dL_law_1300 ?_
  refine n_callV (nc := 108 + 2 * t) (ns := 6870 + 99 * t) (wsOf hm (LaM ca hm) N) (wsOf hc (LaC ca hc nl) C) [.int (xs (6 * t + 1)), .int (xs (6 * t + 2))] K (ct_cn (k_X9_rest x.2.1 E D ca hc nl C (xs (6 * t + 1)) (xs (6 * t + 2)) f1)) s_L_155 heC rfl rfl rfl ⟨by decide, by decide⟩ ⟨by omega, by omega⟩ (rest := []) (Nat.le_of_ble_eq_true rfl) _ rfl dL_law_1301 (fun v w2 hB => ?_)
  obtain ⟨rfl, rfl⟩ := hB
  refine n_perm _ List.perm_append_comm ?_
  refine n_aload_n K 2 dL_law_1304 rfl rfl ?_
  refine n_arg 1 (by decide) (by decide +kernel) K hs hL hb rfl rfl dL_law_1305 dL_law_1306 dL_law_1307 dL_law_1308 dL_law_1309 ?_
  refine n_arg 2 (by decide) (by decide +kernel) K hs hL hb rfl rfl dL_law_1310 dL_law_1311 dL_law_1312 dL_law_1313 dL_law_1314 ?_
  refine n_callV (nc := 108 + 2 * t + 0) (ns := 6870 + 99 * t + 0) (wsOf hc (LaC ca hc nl) C) (wsOf hm (LaM ca hm) N) [.int (xs (6 * t + 1)), .int (xs (6 * t + 2))] K (ct_cn (k_X10_rest x.2.1 E D ca hm N (xs (6 * t + 1)) (xs (6 * t + 2)) f2)) s_L_158 heM rfl rfl rfl ⟨by decide, by decide⟩ ⟨by omega, by omega⟩ (rest := [.int r]) (Nat.le_of_ble_eq_true rfl) _ rfl dL_law_1315 (fun v w2 hB => ?_)
  obtain ⟨rfl, rfl⟩ := hB
  refine n_icmp_eq K 1418 dL_law_1318 (by decide) (fun _ => ?_) (fun h => absurd rfl h)
  refine n_perm _ List.perm_append_comm ?_
  refine n_wid (108 + 2 * (t + 1)) (6870 + 99 * (t + 1)) (by omega) (by omega) ?_
  exact kk nl hc C N hr2 (by omega) rfl
theorem s_L_159 : CsV RL 159 yX9_tell cX9_tell 2 (some .int) 1 := ⟨TB_t 947 (by decide +kernel) (by decide +kernel), TB_t 1 (by decide +kernel) (by decide +kernel), TB_t 944 (by decide +kernel) (by decide +kernel), TB_t 945 (by decide +kernel) (by decide +kernel), TB_t 946 (by decide +kernel) (by decide +kernel), by decide +kernel, by decide +kernel, by decide +kernel⟩
theorem s_L_162 : CsV RL 162 yX10_tell cX10_tell 2 (some .int) 1 := ⟨TB_t 1422 (by decide +kernel) (by decide +kernel), TB_t 13 (by decide +kernel) (by decide +kernel), TB_t 1419 (by decide +kernel) (by decide +kernel), TB_t 1420 (by decide +kernel) (by decide +kernel), TB_t 1421 (by decide +kernel) (by decide +kernel), by decide +kernel, by decide +kernel, by decide +kernel⟩
theorem lw_c35 {x : En} {E : Amd} {D : va_G} {ca : Nat → ClassId} {b L : Nat} {xs : Nat → Int32} {nl t : Nat} {hc hm : Nat → Nat} {C N : Mem} (K : Kn x E D ca RL cL_law 4 2048 84000 600000 7302250) (hs : Sc x b L xs) (hL : L ≤ 3072) (hb : 6 * t + 6 ≤ L) (hnl : nl ≤ t) (hr : Rel nl C N) (kk : ∀ (nl2 : Nat) (hc2 : Nat → Nat) (C2 N2 : Mem), Rel nl2 C2 N2 → nl2 ≤ nl + 1 → hc2 0 = hc 0 → Gn x D 4 (wsOf hm (LaM ca hm) N2 ++ wsOf hc2 (LaC ca hc2 nl2) C2) (108 + 2 * (t + 1)) (6870 + 99 * (t + 1)) 1418 (VL b hc hm t) []) : Gn x D 4 (wsOf hm (LaM ca hm) N ++ wsOf hc (LaC ca hc nl) C) (108 + 2 * t) (6870 + 99 * t) 1323 (VL b hc hm t) [] := by
  obtain ⟨r, C2, N2, e1, e2, hr2⟩ := tell_s hr (xs (6 * t + 1))
  refine n_aload_n K 1 dL_law_1323 rfl rfl ?_
  refine n_arg 1 (by decide) (by decide +kernel) K hs hL hb rfl rfl dL_law_1324 dL_law_1325 dL_law_1326 dL_law_1327 dL_law_1328 ?_
  refine n_callV (nc := 108 + 2 * t) (ns := 6870 + 99 * t) (wsOf hm (LaM ca hm) N) (wsOf hc (LaC ca hc nl) C) [.int (xs (6 * t + 1))] K (ct_cn (k_X9_tell x.2.1 E D ca hc nl C (xs (6 * t + 1)) e1)) s_L_159 heC rfl rfl rfl ⟨by decide, by decide⟩ ⟨by omega, by omega⟩ (rest := []) (Nat.le_of_ble_eq_true rfl) _ rfl dL_law_1329 (fun v w2 hB => ?_)
  obtain ⟨rfl, rfl⟩ := hB
  refine n_perm _ List.perm_append_comm ?_
  refine n_aload_n K 2 dL_law_1332 rfl rfl ?_
  refine n_arg 1 (by decide) (by decide +kernel) K hs hL hb rfl rfl dL_law_1333 dL_law_1334 dL_law_1335 dL_law_1336 dL_law_1337 ?_
  refine n_callV (nc := 108 + 2 * t + 0) (ns := 6870 + 99 * t + 0) (wsOf hc (LaC ca hc nl) C2) (wsOf hm (LaM ca hm) N) [.int (xs (6 * t + 1))] K (ct_cn (k_X10_tell x.2.1 E D ca hm N (xs (6 * t + 1)) e2)) s_L_162 heM rfl rfl rfl ⟨by decide, by decide⟩ ⟨by omega, by omega⟩ (rest := [.int r]) (Nat.le_of_ble_eq_true rfl) _ rfl dL_law_1338 (fun v w2 hB => ?_)
  obtain ⟨rfl, rfl⟩ := hB
  refine n_icmp_eq K 1418 dL_law_1341 (by decide) (fun _ => ?_) (fun h => absurd rfl h)
  refine n_perm _ List.perm_append_comm ?_
  refine n_wid (108 + 2 * (t + 1)) (6870 + 99 * (t + 1)) (by omega) (by omega) ?_
  exact kk nl hc C2 N2 hr2 (by omega) rfl
theorem s_L_163 : CsV RL 163 yX9_check cX9_check 5 (some .int) 1 := ⟨TB_t 951 (by decide +kernel) (by decide +kernel), TB_t 1 (by decide +kernel) (by decide +kernel), TB_t 948 (by decide +kernel) (by decide +kernel), TB_t 949 (by decide +kernel) (by decide +kernel), TB_t 950 (by decide +kernel) (by decide +kernel), by decide +kernel, by decide +kernel, by decide +kernel⟩
theorem s_L_166 : CsV RL 166 yX10_check cX10_check 7 (some .int) 1 := ⟨TB_t 1426 (by decide +kernel) (by decide +kernel), TB_t 13 (by decide +kernel) (by decide +kernel), TB_t 1423 (by decide +kernel) (by decide +kernel), TB_t 1424 (by decide +kernel) (by decide +kernel), TB_t 1425 (by decide +kernel) (by decide +kernel), by decide +kernel, by decide +kernel, by decide +kernel⟩
theorem lw_c36 {x : En} {E : Amd} {D : va_G} {ca : Nat → ClassId} {b L : Nat} {xs : Nat → Int32} {nl t : Nat} {hc hm : Nat → Nat} {C N : Mem} (K : Kn x E D ca RL cL_law 4 2048 84000 600000 7302250) (hs : Sc x b L xs) (hL : L ≤ 3072) (hb : 6 * t + 6 ≤ L) (hnl : nl ≤ t) (hr : Rel nl C N) (kk : ∀ (nl2 : Nat) (hc2 : Nat → Nat) (C2 N2 : Mem), Rel nl2 C2 N2 → nl2 ≤ nl + 1 → hc2 0 = hc 0 → Gn x D 4 (wsOf hm (LaM ca hm) N2 ++ wsOf hc2 (LaC ca hc2 nl2) C2) (108 + 2 * (t + 1)) (6870 + 99 * (t + 1)) 1418 (VL b hc hm t) []) : Gn x D 4 (wsOf hm (LaM ca hm) N ++ wsOf hc (LaC ca hc nl) C) (108 + 2 * t) (6870 + 99 * t) 1346 (VL b hc hm t) [] := by
  obtain ⟨r, C2, N2, e1, e2, hr2⟩ := check_s (by omega) hr (xs (6 * t + 1))
  refine n_aload_n K 1 dL_law_1346 rfl rfl ?_
  refine n_arg 1 (by decide) (by decide +kernel) K hs hL hb rfl rfl dL_law_1347 dL_law_1348 dL_law_1349 dL_law_1350 dL_law_1351 ?_
  refine n_callV (nc := 108 + 2 * t) (ns := 6870 + 99 * t) (wsOf hm (LaM ca hm) N) (wsOf hc (LaC ca hc nl) C) [.int (xs (6 * t + 1))] K (ct_cn (k_X9_check x.2.1 E D ca hc nl C (xs (6 * t + 1)) e1)) s_L_163 heC rfl rfl rfl ⟨by decide, by decide⟩ ⟨by omega, by omega⟩ (rest := []) (Nat.le_of_ble_eq_true rfl) _ rfl dL_law_1352 (fun v w2 hB => ?_)
  obtain ⟨rfl, rfl⟩ := hB
  refine n_perm _ List.perm_append_comm ?_
  refine n_aload_n K 2 dL_law_1355 rfl rfl ?_
  refine n_arg 1 (by decide) (by decide +kernel) K hs hL hb rfl rfl dL_law_1356 dL_law_1357 dL_law_1358 dL_law_1359 dL_law_1360 ?_
  refine n_callV (nc := 108 + 2 * t + 0) (ns := 6870 + 99 * t + 0) (wsOf hc (LaC ca hc nl) C2) (wsOf hm (LaM ca hm) N) [.int (xs (6 * t + 1))] K (ct_cn (k_X10_check x.2.1 E D ca hm N (xs (6 * t + 1)) e2)) s_L_166 heM rfl rfl rfl ⟨by decide, by decide⟩ ⟨by omega, by omega⟩ (rest := [.int r]) (Nat.le_of_ble_eq_true rfl) _ rfl dL_law_1361 (fun v w2 hB => ?_)
  obtain ⟨rfl, rfl⟩ := hB
  refine n_icmp_eq K 1418 dL_law_1364 (by decide) (fun _ => ?_) (fun h => absurd rfl h)
  refine n_perm _ List.perm_append_comm ?_
  refine n_wid (108 + 2 * (t + 1)) (6870 + 99 * (t + 1)) (by omega) (by omega) ?_
  exact kk nl hc C2 N2 hr2 (by omega) rfl
theorem s_L_167 : CsV RL 167 yX9_keep cX9_keep 1 (some .int) 0 := ⟨TB_t 962 (by decide +kernel) (by decide +kernel), TB_t 1 (by decide +kernel) (by decide +kernel), TB_t 959 (by decide +kernel) (by decide +kernel), TB_t 960 (by decide +kernel) (by decide +kernel), TB_t 961 (by decide +kernel) (by decide +kernel), by decide +kernel, by decide +kernel, by decide +kernel⟩
theorem s_L_170 : CsV RL 170 yX10_keep cX10_keep 1 (some .int) 0 := ⟨TB_t 1433 (by decide +kernel) (by decide +kernel), TB_t 13 (by decide +kernel) (by decide +kernel), TB_t 1430 (by decide +kernel) (by decide +kernel), TB_t 1431 (by decide +kernel) (by decide +kernel), TB_t 1432 (by decide +kernel) (by decide +kernel), by decide +kernel, by decide +kernel, by decide +kernel⟩
theorem lw_c37 {x : En} {E : Amd} {D : va_G} {ca : Nat → ClassId} {b L : Nat} {xs : Nat → Int32} {nl t : Nat} {hc hm : Nat → Nat} {C N : Mem} (K : Kn x E D ca RL cL_law 4 2048 84000 600000 7302250) (hs : Sc x b L xs) (hL : L ≤ 3072) (hb : 6 * t + 6 ≤ L) (hnl : nl ≤ t) (hr : Rel nl C N) (kk : ∀ (nl2 : Nat) (hc2 : Nat → Nat) (C2 N2 : Mem), Rel nl2 C2 N2 → nl2 ≤ nl + 1 → hc2 0 = hc 0 → Gn x D 4 (wsOf hm (LaM ca hm) N2 ++ wsOf hc2 (LaC ca hc2 nl2) C2) (108 + 2 * (t + 1)) (6870 + 99 * (t + 1)) 1418 (VL b hc hm t) []) : Gn x D 4 (wsOf hm (LaM ca hm) N ++ wsOf hc (LaC ca hc nl) C) (108 + 2 * t) (6870 + 99 * t) 1369 (VL b hc hm t) [] := by
  obtain ⟨r, C2, N2, e1, e2, hr2⟩ := keep_s hr 
  refine n_aload_n K 1 dL_law_1369 rfl rfl ?_
  refine n_callV (nc := 108 + 2 * t) (ns := 6870 + 99 * t) (wsOf hm (LaM ca hm) N) (wsOf hc (LaC ca hc nl) C) [] K (ct_cn (k_X9_keep x.2.1 E D ca hc nl C  e1)) s_L_167 heC rfl rfl rfl ⟨by decide, by decide⟩ ⟨by omega, by omega⟩ (rest := []) (Nat.le_of_ble_eq_true rfl) _ rfl dL_law_1370 (fun v w2 hB => ?_)
  obtain ⟨rfl, rfl⟩ := hB
  refine n_perm _ List.perm_append_comm ?_
  refine n_aload_n K 2 dL_law_1373 rfl rfl ?_
  refine n_callV (nc := 108 + 2 * t + 0) (ns := 6870 + 99 * t + 0) (wsOf hc (LaC ca hc nl) C2) (wsOf hm (LaM ca hm) N) [] K (ct_cn (k_X10_keep x.2.1 E D ca hm N  e2)) s_L_170 heM rfl rfl rfl ⟨by decide, by decide⟩ ⟨by omega, by omega⟩ (rest := [.int r]) (Nat.le_of_ble_eq_true rfl) _ rfl dL_law_1374 (fun v w2 hB => ?_)
  obtain ⟨rfl, rfl⟩ := hB
  refine n_icmp_eq K 1418 dL_law_1377 (by decide) (fun _ => ?_) (fun h => absurd rfl h)
  refine n_perm _ List.perm_append_comm ?_
  refine n_wid (108 + 2 * (t + 1)) (6870 + 99 * (t + 1)) (by omega) (by omega) ?_
  exact kk nl hc C2 N2 hr2 (by omega) rfl
theorem s_L_171 : CsV RL 171 yX9_back cX9_back 1 (some .int) 0 := ⟨TB_t 967 (by decide +kernel) (by decide +kernel), TB_t 1 (by decide +kernel) (by decide +kernel), TB_t 964 (by decide +kernel) (by decide +kernel), TB_t 965 (by decide +kernel) (by decide +kernel), TB_t 966 (by decide +kernel) (by decide +kernel), by decide +kernel, by decide +kernel, by decide +kernel⟩
theorem s_L_174 : CsV RL 174 yX10_back cX10_back 1 (some .int) 0 := ⟨TB_t 1437 (by decide +kernel) (by decide +kernel), TB_t 13 (by decide +kernel) (by decide +kernel), TB_t 1434 (by decide +kernel) (by decide +kernel), TB_t 1435 (by decide +kernel) (by decide +kernel), TB_t 1436 (by decide +kernel) (by decide +kernel), by decide +kernel, by decide +kernel, by decide +kernel⟩
theorem lw_c38 {x : En} {E : Amd} {D : va_G} {ca : Nat → ClassId} {b L : Nat} {xs : Nat → Int32} {nl t : Nat} {hc hm : Nat → Nat} {C N : Mem} (K : Kn x E D ca RL cL_law 4 2048 84000 600000 7302250) (hs : Sc x b L xs) (hL : L ≤ 3072) (hb : 6 * t + 6 ≤ L) (hnl : nl ≤ t) (hr : Rel nl C N) (kk : ∀ (nl2 : Nat) (hc2 : Nat → Nat) (C2 N2 : Mem), Rel nl2 C2 N2 → nl2 ≤ nl + 1 → hc2 0 = hc 0 → Gn x D 4 (wsOf hm (LaM ca hm) N2 ++ wsOf hc2 (LaC ca hc2 nl2) C2) (108 + 2 * (t + 1)) (6870 + 99 * (t + 1)) 1418 (VL b hc hm t) []) : Gn x D 4 (wsOf hm (LaM ca hm) N ++ wsOf hc (LaC ca hc nl) C) (108 + 2 * t) (6870 + 99 * t) 1382 (VL b hc hm t) [] := by
  obtain ⟨r, C2, N2, e1, e2, hr2⟩ := back_s hr 
  refine n_aload_n K 1 dL_law_1382 rfl rfl ?_
  refine n_callV (nc := 108 + 2 * t) (ns := 6870 + 99 * t) (wsOf hm (LaM ca hm) N) (wsOf hc (LaC ca hc nl) C) [] K (ct_cn (k_X9_back x.2.1 E D ca hc nl C  e1)) s_L_171 heC rfl rfl rfl ⟨by decide, by decide⟩ ⟨by omega, by omega⟩ (rest := []) (Nat.le_of_ble_eq_true rfl) _ rfl dL_law_1383 (fun v w2 hB => ?_)
  obtain ⟨rfl, rfl⟩ := hB
  refine n_perm _ List.perm_append_comm ?_
  refine n_aload_n K 2 dL_law_1386 rfl rfl ?_
  refine n_callV (nc := 108 + 2 * t + 0) (ns := 6870 + 99 * t + 0) (wsOf hc (LaC ca hc nl) C2) (wsOf hm (LaM ca hm) N) [] K (ct_cn (k_X10_back x.2.1 E D ca hm N  e2)) s_L_174 heM rfl rfl rfl ⟨by decide, by decide⟩ ⟨by omega, by omega⟩ (rest := [.int r]) (Nat.le_of_ble_eq_true rfl) _ rfl dL_law_1387 (fun v w2 hB => ?_)
  obtain ⟨rfl, rfl⟩ := hB
  refine n_icmp_eq K 1418 dL_law_1390 (by decide) (fun _ => ?_) (fun h => absurd rfl h)
  refine n_perm _ List.perm_append_comm ?_
  refine n_wid (108 + 2 * (t + 1)) (6870 + 99 * (t + 1)) (by omega) (by omega) ?_
  exact kk nl hc C2 N2 hr2 (by omega) rfl
theorem s_L_175 : CsV RL 175 yX9_count cX9_count 2 (some .int) 1 := ⟨TB_t 971 (by decide +kernel) (by decide +kernel), TB_t 1 (by decide +kernel) (by decide +kernel), TB_t 968 (by decide +kernel) (by decide +kernel), TB_t 969 (by decide +kernel) (by decide +kernel), TB_t 970 (by decide +kernel) (by decide +kernel), by decide +kernel, by decide +kernel, by decide +kernel⟩
theorem s_L_178 : CsV RL 178 yX10_count cX10_count 2 (some .int) 1 := ⟨TB_t 1441 (by decide +kernel) (by decide +kernel), TB_t 13 (by decide +kernel) (by decide +kernel), TB_t 1438 (by decide +kernel) (by decide +kernel), TB_t 1439 (by decide +kernel) (by decide +kernel), TB_t 1440 (by decide +kernel) (by decide +kernel), by decide +kernel, by decide +kernel, by decide +kernel⟩
theorem lw_c39 {x : En} {E : Amd} {D : va_G} {ca : Nat → ClassId} {b L : Nat} {xs : Nat → Int32} {nl t : Nat} {hc hm : Nat → Nat} {C N : Mem} (K : Kn x E D ca RL cL_law 4 2048 84000 600000 7302250) (hs : Sc x b L xs) (hL : L ≤ 3072) (hb : 6 * t + 6 ≤ L) (hnl : nl ≤ t) (hr : Rel nl C N) (kk : ∀ (nl2 : Nat) (hc2 : Nat → Nat) (C2 N2 : Mem), Rel nl2 C2 N2 → nl2 ≤ nl + 1 → hc2 0 = hc 0 → Gn x D 4 (wsOf hm (LaM ca hm) N2 ++ wsOf hc2 (LaC ca hc2 nl2) C2) (108 + 2 * (t + 1)) (6870 + 99 * (t + 1)) 1418 (VL b hc hm t) []) : Gn x D 4 (wsOf hm (LaM ca hm) N ++ wsOf hc (LaC ca hc nl) C) (108 + 2 * t) (6870 + 99 * t) 1395 (VL b hc hm t) [] := by
  obtain ⟨r, C2, N2, e1, e2, hr2⟩ := count_s hr (xs (6 * t + 1))
  obtain ⟨f1, z1⟩ := withM_e e1
  subst z1
  obtain ⟨f2, z2⟩ := withM_e e2
  subst z2
  refine n_aload_n K 1 dL_law_1395 rfl rfl ?_
  refine n_arg 1 (by decide) (by decide +kernel) K hs hL hb rfl rfl dL_law_1396 dL_law_1397 dL_law_1398 dL_law_1399 dL_law_1400 ?_
  refine n_callV (nc := 108 + 2 * t) (ns := 6870 + 99 * t) (wsOf hm (LaM ca hm) N) (wsOf hc (LaC ca hc nl) C) [.int (xs (6 * t + 1))] K (ct_cn (k_X9_count x.2.1 E D ca hc nl C (xs (6 * t + 1)) f1)) s_L_175 heC rfl rfl rfl ⟨by decide, by decide⟩ ⟨by omega, by omega⟩ (rest := []) (Nat.le_of_ble_eq_true rfl) _ rfl dL_law_1401 (fun v w2 hB => ?_)
  obtain ⟨rfl, rfl⟩ := hB
  refine n_perm _ List.perm_append_comm ?_
  refine n_aload_n K 2 dL_law_1404 rfl rfl ?_
  refine n_arg 1 (by decide) (by decide +kernel) K hs hL hb rfl rfl dL_law_1405 dL_law_1406 dL_law_1407 dL_law_1408 dL_law_1409 ?_
  refine n_callV (nc := 108 + 2 * t + 0) (ns := 6870 + 99 * t + 0) (wsOf hc (LaC ca hc nl) C) (wsOf hm (LaM ca hm) N) [.int (xs (6 * t + 1))] K (ct_cn (k_X10_count x.2.1 E D ca hm N (xs (6 * t + 1)) f2)) s_L_178 heM rfl rfl rfl ⟨by decide, by decide⟩ ⟨by omega, by omega⟩ (rest := [.int r]) (Nat.le_of_ble_eq_true rfl) _ rfl dL_law_1410 (fun v w2 hB => ?_)
  obtain ⟨rfl, rfl⟩ := hB
  refine n_icmp_eq K 1418 dL_law_1413 (by decide) (fun _ => ?_) (fun h => absurd rfl h)
  refine n_perm _ List.perm_append_comm ?_
  refine n_wid (108 + 2 * (t + 1)) (6870 + 99 * (t + 1)) (by omega) (by omega) ?_
  exact kk nl hc C N hr2 (by omega) rfl
