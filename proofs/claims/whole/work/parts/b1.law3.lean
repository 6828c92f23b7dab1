/-! ===== the law: its thirty ways ===== -/
theorem law_c0 {l : Launch} {G : Gl} {x : Fx} {cs : Nat × Nat} {Λ : Lay} {sz g b ns : Nat} {μ : Mem} {i : Int} (hx : XOK l G x code RL 4 12 (600000, 7302250)) (hcs : cs.1 ≤ 600000 ∧ cs.2 ≤ 7302250) (hk : Λ b = some (.inr (9, ns, []))) (hn : ns < 2) (hi : 0 ≤ i ∧ i + 6 ≤ gN G ns) (hN : gN G ns ≤ 3072) (hT : ∀ j : Int, inR (gT G ns j)) (cL : LX G Λ g μ) (kk : ∀ μ', LX G Λ g μ' → V G x cs Λ sz μ' 1418 [(3, iv i), (2, .ref (g + 401)), (1, .ref g), (0, .ref b)] []) : V G x cs Λ sz μ 168 [(3, iv i), (2, .ref (g + 401)), (1, .ref g), (0, .ref b)] [] := by
  obtain ⟨b0, h, im, T, S, c⟩ := cL
  obtain ⟨⟨hG, hI, hR⟩, hC, hRS, hgd, hhg, hig⟩ := id c
  refine v_aload hx DL_law_168 2 rfl ?_
  refine v_arg hx DL_law_169 DL_law_170 DL_law_171 DL_law_172 DL_law_173 hk hn hi hN (by decide) ?_
  refine v_arg hx DL_law_174 DL_law_175 DL_law_176 DL_law_177 DL_law_178 hk hn hi hN (by decide) ?_
  refine v_arg hx DL_law_179 DL_law_180 DL_law_181 DL_law_182 DL_law_183 hk hn hi hN (by decide) ?_
  refine v_arg hx DL_law_184 DL_law_185 DL_law_186 DL_law_187 DL_law_188 hk hn hi hN (by decide) ?_
  refine v_cVi hx DL_law_189 CVRL_13 [iv (gT G ns (i + 1)), iv (gT G ns (i + 2)), iv (gT G ns (i + 3)), iv (gT G ns (i + 4))] (p_coef l G Λ sz μ hG hC hI hgd (hT _) (hT _) (hT _) (hT _)) hG.1 rfl rfl (Nat.le_of_ble_eq_true rfl) (by decide) hcs (fun z1 m1 h1 => ?_)
  obtain ⟨rfl, k1⟩ := h1
  have r1 := c.mid k1
  obtain ⟨⟨⟨ρ, ra⟩, rh⟩, ri, rt, rs, X, rx⟩ := id r1
  refine v_aload hx DL_law_192 1 rfl ?_
  refine v_arg hx DL_law_193 DL_law_194 DL_law_195 DL_law_196 DL_law_197 hk hn hi hN (by decide) ?_
  refine v_arg hx DL_law_198 DL_law_199 DL_law_200 DL_law_201 DL_law_202 hk hn hi hN (by decide) ?_
  refine v_arg hx DL_law_203 DL_law_204 DL_law_205 DL_law_206 DL_law_207 hk hn hi hN (by decide) ?_
  refine v_arg hx DL_law_208 DL_law_209 DL_law_210 DL_law_211 DL_law_212 hk hn hi hN (by decide) ?_
  refine v_cVp hx DL_law_213 CVRL_17 [iv (gT G ns (i + 1)), iv (gT G ns (i + 2)), iv (gT G ns (i + 3)), iv (gT G ns (i + 4))] (r_coef l G Λ sz m1 hR ra (hT _) (hT _) (hT _) (hT _)) hR.o rfl rfl (Nat.le_of_ble_eq_true rfl) (by decide) hcs ?_
  refine v_ceq hx DL_law_216 ?_
  exact kk _ (c.next k1 OuR.rf r1 ⟨hgd, hhg, hig⟩)
theorem law_c1 {l : Launch} {G : Gl} {x : Fx} {cs : Nat × Nat} {Λ : Lay} {sz g b ns : Nat} {μ : Mem} {i : Int} (hx : XOK l G x code RL 4 12 (600000, 7302250)) (hcs : cs.1 ≤ 600000 ∧ cs.2 ≤ 7302250) (hk : Λ b = some (.inr (9, ns, []))) (hn : ns < 2) (hi : 0 ≤ i ∧ i + 6 ≤ gN G ns) (hN : gN G ns ≤ 3072) (hT : ∀ j : Int, inR (gT G ns j)) (cL : LX G Λ g μ) (kk : ∀ μ', LX G Λ g μ' → V G x cs Λ sz μ' 1418 [(3, iv i), (2, .ref (g + 401)), (1, .ref g), (0, .ref b)] []) : V G x cs Λ sz μ 221 [(3, iv i), (2, .ref (g + 401)), (1, .ref g), (0, .ref b)] [] := by
  obtain ⟨b0, h, im, T, S, c⟩ := cL
  obtain ⟨⟨hG, hI, hR⟩, hC, hRS, hgd, hhg, hig⟩ := id c
  refine v_aload hx DL_law_221 2 rfl ?_
  refine v_arg hx DL_law_222 DL_law_223 DL_law_224 DL_law_225 DL_law_226 hk hn hi hN (by decide) ?_
  refine v_arg hx DL_law_227 DL_law_228 DL_law_229 DL_law_230 DL_law_231 hk hn hi hN (by decide) ?_
  refine v_arg hx DL_law_232 DL_law_233 DL_law_234 DL_law_235 DL_law_236 hk hn hi hN (by decide) ?_
  refine v_cVi hx DL_law_237 CVRL_18 [iv (gT G ns (i + 1)), iv (gT G ns (i + 2)), iv (gT G ns (i + 3))] (p_letter l G Λ sz μ hG hC hI hgd (hT _) (hT _) (hT _)) hG.1 rfl rfl (Nat.le_of_ble_eq_true rfl) (by decide) hcs (fun z1 m1 h1 => ?_)
  obtain ⟨rfl, k1⟩ := h1
  have r1 := c.mid k1
  obtain ⟨⟨⟨ρ, ra⟩, rh⟩, ri, rt, rs, X, rx⟩ := id r1
  refine v_aload hx DL_law_240 1 rfl ?_
  refine v_arg hx DL_law_241 DL_law_242 DL_law_243 DL_law_244 DL_law_245 hk hn hi hN (by decide) ?_
  refine v_arg hx DL_law_246 DL_law_247 DL_law_248 DL_law_249 DL_law_250 hk hn hi hN (by decide) ?_
  refine v_arg hx DL_law_251 DL_law_252 DL_law_253 DL_law_254 DL_law_255 hk hn hi hN (by decide) ?_
  refine v_cVi hx DL_law_256 CVRL_22 [iv (gT G ns (i + 1)), iv (gT G ns (i + 2)), iv (gT G ns (i + 3))] (r_letter l G Λ sz m1 hR ra (hT _) (hT _) (hT _)) hR.o rfl rfl (Nat.le_of_ble_eq_true rfl) (by decide) hcs (fun z2 m2 h2 => ?_)
  have ez := h2.1
  subst ez
  refine v_ceq hx DL_law_259 ?_
  exact kk _ (c.next k1 (h2.2.ou (by simp)) (r1.st ⟨⟨ρ, ra.frN h2.2 (by simp) (by simp) (by simp) (by simp)⟩, rh.frN h2.2 (by simp) (by simp) (by simp)⟩ h2.2 ⟨(by simp), (by simp), (by simp), (by simp), (by simp)⟩ ⟨(by simp), (by simp), (by simp), (by simp)⟩) ⟨hgd, hhg, hig⟩)
theorem law_c2 {l : Launch} {G : Gl} {x : Fx} {cs : Nat × Nat} {Λ : Lay} {sz g b ns : Nat} {μ : Mem} {i : Int} (hx : XOK l G x code RL 4 12 (600000, 7302250)) (hcs : cs.1 ≤ 600000 ∧ cs.2 ≤ 7302250) (hk : Λ b = some (.inr (9, ns, []))) (hn : ns < 2) (hi : 0 ≤ i ∧ i + 6 ≤ gN G ns) (hN : gN G ns ≤ 3072) (hT : ∀ j : Int, inR (gT G ns j)) (cL : LX G Λ g μ) (kk : ∀ μ', LX G Λ g μ' → V G x cs Λ sz μ' 1418 [(3, iv i), (2, .ref (g + 401)), (1, .ref g), (0, .ref b)] []) : V G x cs Λ sz μ 264 [(3, iv i), (2, .ref (g + 401)), (1, .ref g), (0, .ref b)] [] := by
  obtain ⟨b0, h, im, T, S, c⟩ := cL
  obtain ⟨⟨hG, hI, hR⟩, hC, hRS, hgd, hhg, hig⟩ := id c
  refine v_aload hx DL_law_264 2 rfl ?_
  refine v_arg hx DL_law_265 DL_law_266 DL_law_267 DL_law_268 DL_law_269 hk hn hi hN (by decide) ?_
  refine v_arg hx DL_law_270 DL_law_271 DL_law_272 DL_law_273 DL_law_274 hk hn hi hN (by decide) ?_
  refine v_arg hx DL_law_275 DL_law_276 DL_law_277 DL_law_278 DL_law_279 hk hn hi hN (by decide) ?_
  refine v_cVi hx DL_law_280 CVRL_23 [iv (gT G ns (i + 1)), iv (gT G ns (i + 2)), iv (gT G ns (i + 3))] (p_value l G Λ sz μ hG hC hI hgd (hT _) (hT _) (hT _)) hG.1 rfl rfl (Nat.le_of_ble_eq_true rfl) (by decide) hcs (fun z1 m1 h1 => ?_)
  obtain ⟨rfl, k1⟩ := h1
  have r1 := c.mid k1
  obtain ⟨⟨⟨ρ, ra⟩, rh⟩, ri, rt, rs, X, rx⟩ := id r1
  refine v_aload hx DL_law_283 1 rfl ?_
  refine v_arg hx DL_law_284 DL_law_285 DL_law_286 DL_law_287 DL_law_288 hk hn hi hN (by decide) ?_
  refine v_arg hx DL_law_289 DL_law_290 DL_law_291 DL_law_292 DL_law_293 hk hn hi hN (by decide) ?_
  refine v_arg hx DL_law_294 DL_law_295 DL_law_296 DL_law_297 DL_law_298 hk hn hi hN (by decide) ?_
  refine v_cVp hx DL_law_299 CVRL_26 [iv (gT G ns (i + 1)), iv (gT G ns (i + 2)), iv (gT G ns (i + 3))] (r_value l G Λ sz m1 hR ra (hT _) (hT _) (hT _)) hR.o rfl rfl (Nat.le_of_ble_eq_true rfl) (by decide) hcs ?_
  refine v_ceq hx DL_law_302 ?_
  exact kk _ (c.next k1 OuR.rf r1 ⟨hgd, hhg, hig⟩)
theorem law_c3 {l : Launch} {G : Gl} {x : Fx} {cs : Nat × Nat} {Λ : Lay} {sz g b ns : Nat} {μ : Mem} {i : Int} (hx : XOK l G x code RL 4 12 (600000, 7302250)) (hcs : cs.1 ≤ 600000 ∧ cs.2 ≤ 7302250) (hk : Λ b = some (.inr (9, ns, []))) (hn : ns < 2) (hi : 0 ≤ i ∧ i + 6 ≤ gN G ns) (hN : gN G ns ≤ 3072) (hT : ∀ j : Int, inR (gT G ns j)) (cL : LX G Λ g μ) (kk : ∀ μ', LX G Λ g μ' → V G x cs Λ sz μ' 1418 [(3, iv i), (2, .ref (g + 401)), (1, .ref g), (0, .ref b)] []) : V G x cs Λ sz μ 307 [(3, iv i), (2, .ref (g + 401)), (1, .ref g), (0, .ref b)] [] := by
  obtain ⟨b0, h, im, T, S, c⟩ := cL
  obtain ⟨⟨hG, hI, hR⟩, hC, hRS, hgd, hhg, hig⟩ := id c
  refine v_aload hx DL_law_307 2 rfl ?_
  refine v_arg hx DL_law_308 DL_law_309 DL_law_310 DL_law_311 DL_law_312 hk hn hi hN (by decide) ?_
  refine v_arg hx DL_law_313 DL_law_314 DL_law_315 DL_law_316 DL_law_317 hk hn hi hN (by decide) ?_
  refine v_cVi hx DL_law_318 CVRL_27 [iv (gT G ns (i + 1)), iv (gT G ns (i + 2))] (p_told l G Λ sz μ hG hC hI hgd (hT _) (hT _)) hG.1 rfl rfl (Nat.le_of_ble_eq_true rfl) (by decide) hcs (fun z1 m1 h1 => ?_)
  obtain ⟨rfl, k1⟩ := h1
  have r1 := c.mid k1
  obtain ⟨⟨⟨ρ, ra⟩, rh⟩, ri, rt, rs, X, rx⟩ := id r1
  refine v_aload hx DL_law_321 1 rfl ?_
  refine v_arg hx DL_law_322 DL_law_323 DL_law_324 DL_law_325 DL_law_326 hk hn hi hN (by decide) ?_
  refine v_arg hx DL_law_327 DL_law_328 DL_law_329 DL_law_330 DL_law_331 hk hn hi hN (by decide) ?_
  refine v_cVp hx DL_law_332 CVRL_31 [iv (gT G ns (i + 1)), iv (gT G ns (i + 2))] (r_told l G Λ sz m1 hR ra (hT _) (hT _)) hR.o rfl rfl (Nat.le_of_ble_eq_true rfl) (by decide) hcs ?_
  refine v_ceq hx DL_law_335 ?_
  exact kk _ (c.next k1 OuR.rf r1 ⟨hgd, hhg, hig⟩)
theorem law_c4 {l : Launch} {G : Gl} {x : Fx} {cs : Nat × Nat} {Λ : Lay} {sz g b ns : Nat} {μ : Mem} {i : Int} (hx : XOK l G x code RL 4 12 (600000, 7302250)) (hcs : cs.1 ≤ 600000 ∧ cs.2 ≤ 7302250) (hk : Λ b = some (.inr (9, ns, []))) (hn : ns < 2) (hi : 0 ≤ i ∧ i + 6 ≤ gN G ns) (hN : gN G ns ≤ 3072) (hT : ∀ j : Int, inR (gT G ns j)) (cL : LX G Λ g μ) (kk : ∀ μ', LX G Λ g μ' → V G x cs Λ sz μ' 1418 [(3, iv i), (2, .ref (g + 401)), (1, .ref g), (0, .ref b)] []) : V G x cs Λ sz μ 340 [(3, iv i), (2, .ref (g + 401)), (1, .ref g), (0, .ref b)] [] := by
  obtain ⟨b0, h, im, T, S, c⟩ := cL
  obtain ⟨⟨hG, hI, hR⟩, hC, hRS, hgd, hhg, hig⟩ := id c
  refine v_aload hx DL_law_340 2 rfl ?_
  refine v_arg hx DL_law_341 DL_law_342 DL_law_343 DL_law_344 DL_law_345 hk hn hi hN (by decide) ?_
  refine v_cVi hx DL_law_346 CVRL_32 [iv (gT G ns (i + 1))] (p_count l G Λ sz μ hG hC hI hgd (hT _)) hG.1 rfl rfl (Nat.le_of_ble_eq_true rfl) (by decide) hcs (fun z1 m1 h1 => ?_)
  obtain ⟨rfl, k1⟩ := h1
  have r1 := c.mid k1
  obtain ⟨⟨⟨ρ, ra⟩, rh⟩, ri, rt, rs, X, rx⟩ := id r1
  refine v_aload hx DL_law_349 1 rfl ?_
  refine v_arg hx DL_law_350 DL_law_351 DL_law_352 DL_law_353 DL_law_354 hk hn hi hN (by decide) ?_
  refine v_cVp hx DL_law_355 CVRL_36 [iv (gT G ns (i + 1))] (r_count l G Λ sz m1 hR ra rh (hT _)) hR.o rfl rfl (Nat.le_of_ble_eq_true rfl) (by decide) hcs ?_
  refine v_ceq hx DL_law_358 ?_
  exact kk _ (c.next k1 OuR.rf r1 ⟨hgd, hhg, hig⟩)
theorem law_c5 {l : Launch} {G : Gl} {x : Fx} {cs : Nat × Nat} {Λ : Lay} {sz g b ns : Nat} {μ : Mem} {i : Int} (hx : XOK l G x code RL 4 12 (600000, 7302250)) (hcs : cs.1 ≤ 600000 ∧ cs.2 ≤ 7302250) (hk : Λ b = some (.inr (9, ns, []))) (hn : ns < 2) (hi : 0 ≤ i ∧ i + 6 ≤ gN G ns) (hN : gN G ns ≤ 3072) (hT : ∀ j : Int, inR (gT G ns j)) (cL : LX G Λ g μ) (kk : ∀ μ', LX G Λ g μ' → V G x cs Λ sz μ' 1418 [(3, iv i), (2, .ref (g + 401)), (1, .ref g), (0, .ref b)] []) : V G x cs Λ sz μ 363 [(3, iv i), (2, .ref (g + 401)), (1, .ref g), (0, .ref b)] [] := by
  obtain ⟨b0, h, im, T, S, c⟩ := cL
  obtain ⟨⟨hG, hI, hR⟩, hC, hRS, hgd, hhg, hig⟩ := id c
  refine v_aload hx DL_law_363 2 rfl ?_
  refine v_arg hx DL_law_364 DL_law_365 DL_law_366 DL_law_367 DL_law_368 hk hn hi hN (by decide) ?_
  refine v_cVi hx DL_law_369 CVRL_37 [iv (gT G ns (i + 1))] (p_type l G Λ sz μ hG hC hI hgd (hT _)) hG.1 rfl rfl (Nat.le_of_ble_eq_true rfl) (by decide) hcs (fun z1 m1 h1 => ?_)
  obtain ⟨rfl, k1⟩ := h1
  have r1 := c.mid k1
  obtain ⟨⟨⟨ρ, ra⟩, rh⟩, ri, rt, rs, X, rx⟩ := id r1
  refine v_aload hx DL_law_372 1 rfl ?_
  refine v_arg hx DL_law_373 DL_law_374 DL_law_375 DL_law_376 DL_law_377 hk hn hi hN (by decide) ?_
  refine v_cVi hx DL_law_378 CVRL_40 [iv (gT G ns (i + 1))] (r_type l G Λ sz m1 hR rt (hT _)) hR.o rfl rfl (Nat.le_of_ble_eq_true rfl) (by decide) hcs (fun z2 m2 h2 => ?_)
  have ez := h2.1
  subst ez
  refine v_ceq hx DL_law_381 ?_
  exact kk _ (c.next k1 (h2.2.2.ou (by simp)) (r1.t h2.2.1 h2.2.2 ⟨(by simp), (by simp), (by simp), (by simp), (by simp), (by simp), (by simp)⟩ ⟨⟨(by simp), (by simp), (by simp), (by simp)⟩, (by simp), (by simp), (by simp)⟩) ⟨hgd, hhg, hig⟩)
theorem law_c6 {l : Launch} {G : Gl} {x : Fx} {cs : Nat × Nat} {Λ : Lay} {sz g b ns : Nat} {μ : Mem} {i : Int} (hx : XOK l G x code RL 4 12 (600000, 7302250)) (hcs : cs.1 ≤ 600000 ∧ cs.2 ≤ 7302250) (hk : Λ b = some (.inr (9, ns, []))) (hn : ns < 2) (hi : 0 ≤ i ∧ i + 6 ≤ gN G ns) (hN : gN G ns ≤ 3072) (hT : ∀ j : Int, inR (gT G ns j)) (cL : LX G Λ g μ) (kk : ∀ μ', LX G Λ g μ' → V G x cs Λ sz μ' 1418 [(3, iv i), (2, .ref (g + 401)), (1, .ref g), (0, .ref b)] []) : V G x cs Λ sz μ 386 [(3, iv i), (2, .ref (g + 401)), (1, .ref g), (0, .ref b)] [] := by
  obtain ⟨b0, h, im, T, S, c⟩ := cL
  obtain ⟨⟨hG, hI, hR⟩, hC, hRS, hgd, hhg, hig⟩ := id c
  refine v_aload hx DL_law_386 2 rfl ?_
  refine v_arg hx DL_law_387 DL_law_388 DL_law_389 DL_law_390 DL_law_391 hk hn hi hN (by decide) ?_
  refine v_arg hx DL_law_392 DL_law_393 DL_law_394 DL_law_395 DL_law_396 hk hn hi hN (by decide) ?_
  refine v_cVi hx DL_law_397 CVRL_41 [iv (gT G ns (i + 1)), iv (gT G ns (i + 2))] (p_read l G Λ sz μ hG hC hI hgd (hT _) (hT _)) hG.1 rfl rfl (Nat.le_of_ble_eq_true rfl) (by decide) hcs (fun z1 m1 h1 => ?_)
  obtain ⟨rfl, k1⟩ := h1
  have r1 := c.mid k1
  obtain ⟨⟨⟨ρ, ra⟩, rh⟩, ri, rt, rs, X, rx⟩ := id r1
  refine v_aload hx DL_law_400 1 rfl ?_
  refine v_arg hx DL_law_401 DL_law_402 DL_law_403 DL_law_404 DL_law_405 hk hn hi hN (by decide) ?_
  refine v_arg hx DL_law_406 DL_law_407 DL_law_408 DL_law_409 DL_law_410 hk hn hi hN (by decide) ?_
  refine v_cVi hx DL_law_411 CVRL_44 [iv (gT G ns (i + 1)), iv (gT G ns (i + 2))] (r_read l G Λ sz m1 hR ra rh rt (hT _) (hT _)) hR.o rfl rfl (Nat.le_of_ble_eq_true rfl) (by decide) hcs (fun z2 m2 h2 => ?_)
  have ez := h2.1
  subst ez
  refine v_ceq hx DL_law_414 ?_
  exact kk _ (c.next k1 (h2.2.2.ou (by simp)) (r1.rd h2.2.1.1 h2.2.1.2 h2.2.2 ⟨(by simp), (by simp), (by simp), (by simp)⟩ ⟨(by simp), (by simp), (by simp)⟩) (have q := redB_good rt.1 hgd hhg; ⟨q.1, q.2, hig⟩))
theorem law_c7 {l : Launch} {G : Gl} {x : Fx} {cs : Nat × Nat} {Λ : Lay} {sz g b ns : Nat} {μ : Mem} {i : Int} (hx : XOK l G x code RL 4 12 (600000, 7302250)) (hcs : cs.1 ≤ 600000 ∧ cs.2 ≤ 7302250) (hk : Λ b = some (.inr (9, ns, []))) (hn : ns < 2) (hi : 0 ≤ i ∧ i + 6 ≤ gN G ns) (hN : gN G ns ≤ 3072) (hT : ∀ j : Int, inR (gT G ns j)) (cL : LX G Λ g μ) (kk : ∀ μ', LX G Λ g μ' → V G x cs Λ sz μ' 1418 [(3, iv i), (2, .ref (g + 401)), (1, .ref g), (0, .ref b)] []) : V G x cs Λ sz μ 419 [(3, iv i), (2, .ref (g + 401)), (1, .ref g), (0, .ref b)] [] := by
  obtain ⟨b0, h, im, T, S, c⟩ := cL
  obtain ⟨⟨hG, hI, hR⟩, hC, hRS, hgd, hhg, hig⟩ := id c
  refine v_aload hx DL_law_419 2 rfl ?_
  refine v_arg hx DL_law_420 DL_law_421 DL_law_422 DL_law_423 DL_law_424 hk hn hi hN (by decide) ?_
  refine v_arg hx DL_law_425 DL_law_426 DL_law_427 DL_law_428 DL_law_429 hk hn hi hN (by decide) ?_
  refine v_arg hx DL_law_430 DL_law_431 DL_law_432 DL_law_433 DL_law_434 hk hn hi hN (by decide) ?_
  refine v_arg hx DL_law_435 DL_law_436 DL_law_437 DL_law_438 DL_law_439 hk hn hi hN (by decide) ?_
  refine v_arg hx DL_law_440 DL_law_441 DL_law_442 DL_law_443 DL_law_444 hk hn hi hN (by decide) ?_
  refine v_cVi hx DL_law_445 CVRL_45 [iv (gT G ns (i + 1)), iv (gT G ns (i + 2)), iv (gT G ns (i + 3)), iv (gT G ns (i + 4)), iv (gT G ns (i + 5))] (p_tower l G Λ sz μ hG hC hI hgd (hT _) (hT _) (hT _) (hT _) (hT _)) hG.1 rfl rfl (Nat.le_of_ble_eq_true rfl) (by decide) hcs (fun z1 m1 h1 => ?_)
  obtain ⟨rfl, k1⟩ := h1
  have r1 := c.mid k1
  obtain ⟨⟨⟨ρ, ra⟩, rh⟩, ri, rt, rs, X, rx⟩ := id r1
  refine v_aload hx DL_law_448 1 rfl ?_
  refine v_arg hx DL_law_449 DL_law_450 DL_law_451 DL_law_452 DL_law_453 hk hn hi hN (by decide) ?_
  refine v_arg hx DL_law_454 DL_law_455 DL_law_456 DL_law_457 DL_law_458 hk hn hi hN (by decide) ?_
  refine v_arg hx DL_law_459 DL_law_460 DL_law_461 DL_law_462 DL_law_463 hk hn hi hN (by decide) ?_
  refine v_arg hx DL_law_464 DL_law_465 DL_law_466 DL_law_467 DL_law_468 hk hn hi hN (by decide) ?_
  refine v_arg hx DL_law_469 DL_law_470 DL_law_471 DL_law_472 DL_law_473 hk hn hi hN (by decide) ?_
  refine v_cVi hx DL_law_474 CVRL_49 [iv (gT G ns (i + 1)), iv (gT G ns (i + 2)), iv (gT G ns (i + 3)), iv (gT G ns (i + 4)), iv (gT G ns (i + 5))] (r_tower l G Λ sz m1 hR ra rh (hT _) (hT _) (hT _) (hT _) (hT _)) hR.o rfl rfl (Nat.le_of_ble_eq_true rfl) (by decide) hcs (fun z2 m2 h2 => ?_)
  have h2 := towr_one ra rh h2
  have ez := h2.1
  subst ez
  refine v_ceq hx DL_law_477 ?_
  exact kk _ (c.next k1 (h2.2.2.ou (by simp)) (r1.st h2.2.1 h2.2.2 ⟨(by simp), (by simp), (by simp), (by simp), (by simp)⟩ ⟨(by simp), (by simp), (by simp), (by simp)⟩) (have q := twB_good hgd hhg; ⟨q.1, q.2, hig⟩))
theorem law_c8 {l : Launch} {G : Gl} {x : Fx} {cs : Nat × Nat} {Λ : Lay} {sz g b ns : Nat} {μ : Mem} {i : Int} (hx : XOK l G x code RL 4 12 (600000, 7302250)) (hcs : cs.1 ≤ 600000 ∧ cs.2 ≤ 7302250) (hk : Λ b = some (.inr (9, ns, []))) (hn : ns < 2) (hi : 0 ≤ i ∧ i + 6 ≤ gN G ns) (hN : gN G ns ≤ 3072) (hT : ∀ j : Int, inR (gT G ns j)) (cL : LX G Λ g μ) (kk : ∀ μ', LX G Λ g μ' → V G x cs Λ sz μ' 1418 [(3, iv i), (2, .ref (g + 401)), (1, .ref g), (0, .ref b)] []) : V G x cs Λ sz μ 482 [(3, iv i), (2, .ref (g + 401)), (1, .ref g), (0, .ref b)] [] := by
  obtain ⟨b0, h, im, T, S, c⟩ := cL
  obtain ⟨⟨hG, hI, hR⟩, hC, hRS, hgd, hhg, hig⟩ := id c
  refine v_aload hx DL_law_482 2 rfl ?_
  refine v_arg hx DL_law_483 DL_law_484 DL_law_485 DL_law_486 DL_law_487 hk hn hi hN (by decide) ?_
  refine v_arg hx DL_law_488 DL_law_489 DL_law_490 DL_law_491 DL_law_492 hk hn hi hN (by decide) ?_
  refine v_arg hx DL_law_493 DL_law_494 DL_law_495 DL_law_496 DL_law_497 hk hn hi hN (by decide) ?_
  refine v_arg hx DL_law_498 DL_law_499 DL_law_500 DL_law_501 DL_law_502 hk hn hi hN (by decide) ?_
  refine v_cVi hx DL_law_503 CVRL_50 [iv (gT G ns (i + 1)), iv (gT G ns (i + 2)), iv (gT G ns (i + 3)), iv (gT G ns (i + 4))] (p_join l G Λ sz μ hG hC hI hgd (hT _) (hT _) (hT _) (hT _)) hG.1 rfl rfl (Nat.le_of_ble_eq_true rfl) (by decide) hcs (fun z1 m1 h1 => ?_)
  obtain ⟨rfl, k1⟩ := h1
  have r1 := c.mid k1
  obtain ⟨⟨⟨ρ, ra⟩, rh⟩, ri, rt, rs, X, rx⟩ := id r1
  refine v_aload hx DL_law_506 1 rfl ?_
  refine v_arg hx DL_law_507 DL_law_508 DL_law_509 DL_law_510 DL_law_511 hk hn hi hN (by decide) ?_
  refine v_arg hx DL_law_512 DL_law_513 DL_law_514 DL_law_515 DL_law_516 hk hn hi hN (by decide) ?_
  refine v_arg hx DL_law_517 DL_law_518 DL_law_519 DL_law_520 DL_law_521 hk hn hi hN (by decide) ?_
  refine v_arg hx DL_law_522 DL_law_523 DL_law_524 DL_law_525 DL_law_526 hk hn hi hN (by decide) ?_
  refine v_cVi hx DL_law_527 CVRL_53 [iv (gT G ns (i + 1)), iv (gT G ns (i + 2)), iv (gT G ns (i + 3)), iv (gT G ns (i + 4))] (r_join l G Λ sz m1 hR ra rh hgd (hT _) (hT _) (hT _) (hT _)) hR.o rfl rfl (Nat.le_of_ble_eq_true rfl) (by decide) hcs (fun z2 m2 h2 => ?_)
  have ez := h2.1
  subst ez
  refine v_ceq hx DL_law_530 ?_
  exact kk _ (c.next k1 (h2.2.2.ou (by simp)) (r1.st h2.2.1 h2.2.2 ⟨(by simp), (by simp), (by simp), (by simp), (by simp)⟩ ⟨(by simp), (by simp), (by simp), (by simp)⟩) (have q := joinB_good hgd hhg; ⟨q.1, q.2, hig⟩))
theorem law_c9 {l : Launch} {G : Gl} {x : Fx} {cs : Nat × Nat} {Λ : Lay} {sz g b ns : Nat} {μ : Mem} {i : Int} (hx : XOK l G x code RL 4 12 (600000, 7302250)) (hcs : cs.1 ≤ 600000 ∧ cs.2 ≤ 7302250) (hk : Λ b = some (.inr (9, ns, []))) (hn : ns < 2) (hi : 0 ≤ i ∧ i + 6 ≤ gN G ns) (hN : gN G ns ≤ 3072) (hT : ∀ j : Int, inR (gT G ns j)) (cL : LX G Λ g μ) (kk : ∀ μ', LX G Λ g μ' → V G x cs Λ sz μ' 1418 [(3, iv i), (2, .ref (g + 401)), (1, .ref g), (0, .ref b)] []) : V G x cs Λ sz μ 535 [(3, iv i), (2, .ref (g + 401)), (1, .ref g), (0, .ref b)] [] := by
  obtain ⟨b0, h, im, T, S, c⟩ := cL
  obtain ⟨⟨hG, hI, hR⟩, hC, hRS, hgd, hhg, hig⟩ := id c
  refine v_aload hx DL_law_535 2 rfl ?_
  refine v_arg hx DL_law_536 DL_law_537 DL_law_538 DL_law_539 DL_law_540 hk hn hi hN (by decide) ?_
  refine v_arg hx DL_law_541 DL_law_542 DL_law_543 DL_law_544 DL_law_545 hk hn hi hN (by decide) ?_
  refine v_cVi hx DL_law_546 CVRL_54 [iv (gT G ns (i + 1)), iv (gT G ns (i + 2))] (p_derive l G Λ sz μ hG hC hI hgd (hT _) (hT _)) hG.1 rfl rfl (Nat.le_of_ble_eq_true rfl) (by decide) hcs (fun z1 m1 h1 => ?_)
  obtain ⟨rfl, k1⟩ := h1
  have r1 := c.mid k1
  obtain ⟨⟨⟨ρ, ra⟩, rh⟩, ri, rt, rs, X, rx⟩ := id r1
  refine v_aload hx DL_law_549 1 rfl ?_
  refine v_arg hx DL_law_550 DL_law_551 DL_law_552 DL_law_553 DL_law_554 hk hn hi hN (by decide) ?_
  refine v_arg hx DL_law_555 DL_law_556 DL_law_557 DL_law_558 DL_law_559 hk hn hi hN (by decide) ?_
  refine v_cVi hx DL_law_560 CVRL_57 [iv (gT G ns (i + 1)), iv (gT G ns (i + 2))] (r_derive l G Λ sz m1 hR ra rh hgd (hT _) (hT _)) hR.o rfl rfl (Nat.le_of_ble_eq_true rfl) (by decide) hcs (fun z2 m2 h2 => ?_)
  have ez := h2.1
  subst ez
  refine v_ceq hx DL_law_563 ?_
  exact kk _ (c.next k1 (h2.2.2.ou (by simp)) (r1.st h2.2.1 h2.2.2 ⟨(by simp), (by simp), (by simp), (by simp), (by simp)⟩ ⟨(by simp), (by simp), (by simp), (by simp)⟩) (have q := derB_good hgd hhg; ⟨q.1, q.2, hig⟩))
theorem law_c10 {l : Launch} {G : Gl} {x : Fx} {cs : Nat × Nat} {Λ : Lay} {sz g b ns : Nat} {μ : Mem} {i : Int} (hx : XOK l G x code RL 4 12 (600000, 7302250)) (hcs : cs.1 ≤ 600000 ∧ cs.2 ≤ 7302250) (hk : Λ b = some (.inr (9, ns, []))) (hn : ns < 2) (hi : 0 ≤ i ∧ i + 6 ≤ gN G ns) (hN : gN G ns ≤ 3072) (hT : ∀ j : Int, inR (gT G ns j)) (cL : LX G Λ g μ) (kk : ∀ μ', LX G Λ g μ' → V G x cs Λ sz μ' 1418 [(3, iv i), (2, .ref (g + 401)), (1, .ref g), (0, .ref b)] []) : V G x cs Λ sz μ 568 [(3, iv i), (2, .ref (g + 401)), (1, .ref g), (0, .ref b)] [] := by
  obtain ⟨b0, h, im, T, S, c⟩ := cL
  obtain ⟨⟨hG, hI, hR⟩, hC, hRS, hgd, hhg, hig⟩ := id c
  refine v_aload hx DL_law_568 2 rfl ?_
  refine v_arg hx DL_law_569 DL_law_570 DL_law_571 DL_law_572 DL_law_573 hk hn hi hN (by decide) ?_
  refine v_cVi hx DL_law_574 CVRL_58 [iv (gT G ns (i + 1))] (p_drift l G Λ sz μ hG hC hI hgd (hT _)) hG.1 rfl rfl (Nat.le_of_ble_eq_true rfl) (by decide) hcs (fun z1 m1 h1 => ?_)
  obtain ⟨rfl, k1⟩ := h1
  have r1 := c.mid k1
  obtain ⟨⟨⟨ρ, ra⟩, rh⟩, ri, rt, rs, X, rx⟩ := id r1
  refine v_aload hx DL_law_577 1 rfl ?_
  refine v_arg hx DL_law_578 DL_law_579 DL_law_580 DL_law_581 DL_law_582 hk hn hi hN (by decide) ?_
  refine v_cVi hx DL_law_583 CVRL_61 [iv (gT G ns (i + 1))] (r_drift l G Λ sz m1 hR ra rh hgd (hT _)) hR.o rfl rfl (Nat.le_of_ble_eq_true rfl) (by decide) hcs (fun z2 m2 h2 => ?_)
  have ez := h2.1
  subst ez
  refine v_ceq hx DL_law_586 ?_
  exact kk _ (c.next k1 (h2.2.2.ou (by simp)) (r1.st h2.2.1 h2.2.2 ⟨(by simp), (by simp), (by simp), (by simp), (by simp)⟩ ⟨(by simp), (by simp), (by simp), (by simp)⟩) (have q := driS_good hgd hhg; ⟨q.1, q.2, hig⟩))
theorem law_c11 {l : Launch} {G : Gl} {x : Fx} {cs : Nat × Nat} {Λ : Lay} {sz g b ns : Nat} {μ : Mem} {i : Int} (hx : XOK l G x code RL 4 12 (600000, 7302250)) (hcs : cs.1 ≤ 600000 ∧ cs.2 ≤ 7302250) (hk : Λ b = some (.inr (9, ns, []))) (hn : ns < 2) (hi : 0 ≤ i ∧ i + 6 ≤ gN G ns) (hN : gN G ns ≤ 3072) (hT : ∀ j : Int, inR (gT G ns j)) (cL : LX G Λ g μ) (kk : ∀ μ', LX G Λ g μ' → V G x cs Λ sz μ' 1418 [(3, iv i), (2, .ref (g + 401)), (1, .ref g), (0, .ref b)] []) : V G x cs Λ sz μ 591 [(3, iv i), (2, .ref (g + 401)), (1, .ref g), (0, .ref b)] [] := by
  obtain ⟨b0, h, im, T, S, c⟩ := cL
  obtain ⟨⟨hG, hI, hR⟩, hC, hRS, hgd, hhg, hig⟩ := id c
  refine v_aload hx DL_law_591 2 rfl ?_
  refine v_cVi hx DL_law_592 CVRL_62 [] (p_undo l G Λ sz μ hG hC hI hgd ) hG.1 rfl rfl (Nat.le_of_ble_eq_true rfl) (by decide) hcs (fun z1 m1 h1 => ?_)
  obtain ⟨rfl, k1⟩ := h1
  have r1 := c.mid k1
  obtain ⟨⟨⟨ρ, ra⟩, rh⟩, ri, rt, rs, X, rx⟩ := id r1
  refine v_aload hx DL_law_595 1 rfl ?_
  refine v_cVi hx DL_law_596 CVRL_66 [] (r_undo l G Λ sz m1 hR ra rh ) hR.o rfl rfl (Nat.le_of_ble_eq_true rfl) (by decide) hcs (fun z2 m2 h2 => ?_)
  have h2 := undo_one ra rh h2
  have ez := h2.1
  subst ez
  refine v_ceq hx DL_law_599 ?_
  exact kk _ (c.next k1 (h2.2.2.ou (by simp)) (r1.st h2.2.1 h2.2.2 ⟨(by simp), (by simp), (by simp), (by simp), (by simp)⟩ ⟨(by simp), (by simp), (by simp), (by simp)⟩) (have q := undB_good hgd hhg; ⟨q.1, q.2, hig⟩))
theorem law_c12 {l : Launch} {G : Gl} {x : Fx} {cs : Nat × Nat} {Λ : Lay} {sz g b ns : Nat} {μ : Mem} {i : Int} (hx : XOK l G x code RL 4 12 (600000, 7302250)) (hcs : cs.1 ≤ 600000 ∧ cs.2 ≤ 7302250) (hk : Λ b = some (.inr (9, ns, []))) (hn : ns < 2) (hi : 0 ≤ i ∧ i + 6 ≤ gN G ns) (hN : gN G ns ≤ 3072) (hT : ∀ j : Int, inR (gT G ns j)) (cL : LX G Λ g μ) (kk : ∀ μ', LX G Λ g μ' → V G x cs Λ sz μ' 1418 [(3, iv i), (2, .ref (g + 401)), (1, .ref g), (0, .ref b)] []) : V G x cs Λ sz μ 604 [(3, iv i), (2, .ref (g + 401)), (1, .ref g), (0, .ref b)] [] := by
  obtain ⟨b0, h, im, T, S, c⟩ := cL
  obtain ⟨⟨hG, hI, hR⟩, hC, hRS, hgd, hhg, hig⟩ := id c
  refine v_aload hx DL_law_604 2 rfl ?_
  refine v_arg hx DL_law_605 DL_law_606 DL_law_607 DL_law_608 DL_law_609 hk hn hi hN (by decide) ?_
  refine v_cVi hx DL_law_610 CVRL_67 [iv (gT G ns (i + 1))] (p_seed l G Λ sz μ hG hC hI hgd (hT _)) hG.1 rfl rfl (Nat.le_of_ble_eq_true rfl) (by decide) hcs (fun z1 m1 h1 => ?_)
  obtain ⟨rfl, k1⟩ := h1
  have r1 := c.mid k1
  obtain ⟨⟨⟨ρ, ra⟩, rh⟩, ri, rt, rs, X, rx⟩ := id r1
  refine v_aload hx DL_law_613 1 rfl ?_
  refine v_arg hx DL_law_614 DL_law_615 DL_law_616 DL_law_617 DL_law_618 hk hn hi hN (by decide) ?_
  refine v_cVi hx DL_law_619 CVRL_70 [iv (gT G ns (i + 1))] (r_seed l G Λ sz m1 hR ra (hT _)) hR.o rfl rfl (Nat.le_of_ble_eq_true rfl) (by decide) hcs (fun z2 m2 h2 => ?_)
  have h2 := seed_one ra h2
  have ez := h2.1
  subst ez
  refine v_ceq hx DL_law_622 ?_
  exact kk _ (c.next k1 (h2.2.2.ou (by simp)) (r1.st ⟨⟨_, h2.2.1⟩, rh.frN h2.2.2 (by simp) (by simp) (by simp)⟩ h2.2.2 ⟨(by simp), (by simp), (by simp), (by simp), (by simp)⟩ ⟨(by simp), (by simp), (by simp), (by simp)⟩) ⟨sedB_good hgd (hT _), hhg, hig⟩)
theorem law_c13 {l : Launch} {G : Gl} {x : Fx} {cs : Nat × Nat} {Λ : Lay} {sz g b ns : Nat} {μ : Mem} {i : Int} (hx : XOK l G x code RL 4 12 (600000, 7302250)) (hcs : cs.1 ≤ 600000 ∧ cs.2 ≤ 7302250) (hk : Λ b = some (.inr (9, ns, []))) (hn : ns < 2) (hi : 0 ≤ i ∧ i + 6 ≤ gN G ns) (hN : gN G ns ≤ 3072) (hT : ∀ j : Int, inR (gT G ns j)) (cL : LX G Λ g μ) (kk : ∀ μ', LX G Λ g μ' → V G x cs Λ sz μ' 1418 [(3, iv i), (2, .ref (g + 401)), (1, .ref g), (0, .ref b)] []) : V G x cs Λ sz μ 627 [(3, iv i), (2, .ref (g + 401)), (1, .ref g), (0, .ref b)] [] := by
  obtain ⟨b0, h, im, T, S, c⟩ := cL
  obtain ⟨⟨hG, hI, hR⟩, hC, hRS, hgd, hhg, hig⟩ := id c
  refine v_aload hx DL_law_627 2 rfl ?_
  refine v_arg hx DL_law_628 DL_law_629 DL_law_630 DL_law_631 DL_law_632 hk hn hi hN (by decide) ?_
  refine v_arg hx DL_law_633 DL_law_634 DL_law_635 DL_law_636 DL_law_637 hk hn hi hN (by decide) ?_
  refine v_arg hx DL_law_638 DL_law_639 DL_law_640 DL_law_641 DL_law_642 hk hn hi hN (by decide) ?_
  refine v_arg hx DL_law_643 DL_law_644 DL_law_645 DL_law_646 DL_law_647 hk hn hi hN (by decide) ?_
  refine v_cVi hx DL_law_648 CVRL_71 [iv (gT G ns (i + 1)), iv (gT G ns (i + 2)), iv (gT G ns (i + 3)), iv (gT G ns (i + 4))] (p_part l G Λ sz μ hG hC hI hgd (hT _) (hT _) (hT _) (hT _)) hG.1 rfl rfl (Nat.le_of_ble_eq_true rfl) (by decide) hcs (fun z1 m1 h1 => ?_)
  obtain ⟨rfl, k1⟩ := h1
  have r1 := c.mid k1
  obtain ⟨⟨⟨ρ, ra⟩, rh⟩, ri, rt, rs, X, rx⟩ := id r1
  refine v_aload hx DL_law_651 1 rfl ?_
  refine v_arg hx DL_law_652 DL_law_653 DL_law_654 DL_law_655 DL_law_656 hk hn hi hN (by decide) ?_
  refine v_arg hx DL_law_657 DL_law_658 DL_law_659 DL_law_660 DL_law_661 hk hn hi hN (by decide) ?_
  refine v_arg hx DL_law_662 DL_law_663 DL_law_664 DL_law_665 DL_law_666 hk hn hi hN (by decide) ?_
  refine v_arg hx DL_law_667 DL_law_668 DL_law_669 DL_law_670 DL_law_671 hk hn hi hN (by decide) ?_
  refine v_cVi hx DL_law_672 CVRL_74 [iv (gT G ns (i + 1)), iv (gT G ns (i + 2)), iv (gT G ns (i + 3)), iv (gT G ns (i + 4))] (r_part l G Λ sz m1 hR ra hgd ⟨X, rx⟩ (hT _) (hT _) (hT _) (hT _)) hR.o rfl rfl (Nat.le_of_ble_eq_true rfl) (by decide) hcs (fun z2 m2 h2 => ?_)
  have ez := h2.1
  subst ez
  refine v_ceq hx DL_law_675 ?_
  exact kk _ (c.next k1 h2.2.ou (r1.rq h2.2) ⟨hgd, hhg, hig⟩)
theorem law_c14 {l : Launch} {G : Gl} {x : Fx} {cs : Nat × Nat} {Λ : Lay} {sz g b ns : Nat} {μ : Mem} {i : Int} (hx : XOK l G x code RL 4 12 (600000, 7302250)) (hcs : cs.1 ≤ 600000 ∧ cs.2 ≤ 7302250) (hk : Λ b = some (.inr (9, ns, []))) (hn : ns < 2) (hi : 0 ≤ i ∧ i + 6 ≤ gN G ns) (hN : gN G ns ≤ 3072) (hT : ∀ j : Int, inR (gT G ns j)) (cL : LX G Λ g μ) (kk : ∀ μ', LX G Λ g μ' → V G x cs Λ sz μ' 1418 [(3, iv i), (2, .ref (g + 401)), (1, .ref g), (0, .ref b)] []) : V G x cs Λ sz μ 680 [(3, iv i), (2, .ref (g + 401)), (1, .ref g), (0, .ref b)] [] := by
  obtain ⟨b0, h, im, T, S, c⟩ := cL
  obtain ⟨⟨hG, hI, hR⟩, hC, hRS, hgd, hhg, hig⟩ := id c
  refine v_aload hx DL_law_680 2 rfl ?_
  refine v_arg hx DL_law_681 DL_law_682 DL_law_683 DL_law_684 DL_law_685 hk hn hi hN (by decide) ?_
  refine v_arg hx DL_law_686 DL_law_687 DL_law_688 DL_law_689 DL_law_690 hk hn hi hN (by decide) ?_
  refine v_arg hx DL_law_691 DL_law_692 DL_law_693 DL_law_694 DL_law_695 hk hn hi hN (by decide) ?_
  refine v_arg hx DL_law_696 DL_law_697 DL_law_698 DL_law_699 DL_law_700 hk hn hi hN (by decide) ?_
  refine v_cVi hx DL_law_701 CVRL_75 [iv (gT G ns (i + 1)), iv (gT G ns (i + 2)), iv (gT G ns (i + 3)), iv (gT G ns (i + 4))] (p_split l G Λ sz μ hG hC hI hgd (hT _) (hT _) (hT _) (hT _)) hG.1 rfl rfl (Nat.le_of_ble_eq_true rfl) (by decide) hcs (fun z1 m1 h1 => ?_)
  obtain ⟨rfl, k1⟩ := h1
  have r1 := c.mid k1
  obtain ⟨⟨⟨ρ, ra⟩, rh⟩, ri, rt, rs, X, rx⟩ := id r1
  refine v_aload hx DL_law_704 1 rfl ?_
  refine v_arg hx DL_law_705 DL_law_706 DL_law_707 DL_law_708 DL_law_709 hk hn hi hN (by decide) ?_
  refine v_arg hx DL_law_710 DL_law_711 DL_law_712 DL_law_713 DL_law_714 hk hn hi hN (by decide) ?_
  refine v_arg hx DL_law_715 DL_law_716 DL_law_717 DL_law_718 DL_law_719 hk hn hi hN (by decide) ?_
  refine v_arg hx DL_law_720 DL_law_721 DL_law_722 DL_law_723 DL_law_724 hk hn hi hN (by decide) ?_
  refine v_cVi hx DL_law_725 CVRL_78 [iv (gT G ns (i + 1)), iv (gT G ns (i + 2)), iv (gT G ns (i + 3)), iv (gT G ns (i + 4))] (r_split l G Λ sz m1 hR ra hgd ⟨X, rx⟩ (hT _) (hT _) (hT _) (hT _)) hR.o rfl rfl (Nat.le_of_ble_eq_true rfl) (by decide) hcs (fun z2 m2 h2 => ?_)
  have ez := h2.1
  subst ez
  refine v_ceq hx DL_law_728 ?_
  exact kk _ (c.next k1 h2.2.ou (r1.rq h2.2) ⟨hgd, hhg, hig⟩)
theorem law_c15 {l : Launch} {G : Gl} {x : Fx} {cs : Nat × Nat} {Λ : Lay} {sz g b ns : Nat} {μ : Mem} {i : Int} (hx : XOK l G x code RL 4 12 (600000, 7302250)) (hcs : cs.1 ≤ 600000 ∧ cs.2 ≤ 7302250) (hk : Λ b = some (.inr (9, ns, []))) (hn : ns < 2) (hi : 0 ≤ i ∧ i + 6 ≤ gN G ns) (hN : gN G ns ≤ 3072) (hT : ∀ j : Int, inR (gT G ns j)) (cL : LX G Λ g μ) (kk : ∀ μ', LX G Λ g μ' → V G x cs Λ sz μ' 1418 [(3, iv i), (2, .ref (g + 401)), (1, .ref g), (0, .ref b)] []) : V G x cs Λ sz μ 733 [(3, iv i), (2, .ref (g + 401)), (1, .ref g), (0, .ref b)] [] := by
  obtain ⟨b0, h, im, T, S, c⟩ := cL
  obtain ⟨⟨hG, hI, hR⟩, hC, hRS, hgd, hhg, hig⟩ := id c
  refine v_aload hx DL_law_733 2 rfl ?_
  refine v_arg hx DL_law_734 DL_law_735 DL_law_736 DL_law_737 DL_law_738 hk hn hi hN (by decide) ?_
  refine v_arg hx DL_law_739 DL_law_740 DL_law_741 DL_law_742 DL_law_743 hk hn hi hN (by decide) ?_
  refine v_cVi hx DL_law_744 CVRL_79 [iv (gT G ns (i + 1)), iv (gT G ns (i + 2))] (p_asked l G Λ sz μ hG hC hI hgd (hT _) (hT _)) hG.1 rfl rfl (Nat.le_of_ble_eq_true rfl) (by decide) hcs (fun z1 m1 h1 => ?_)
  obtain ⟨rfl, k1⟩ := h1
  have r1 := c.mid k1
  obtain ⟨⟨⟨ρ, ra⟩, rh⟩, ri, rt, rs, X, rx⟩ := id r1
  refine v_aload hx DL_law_747 1 rfl ?_
  refine v_arg hx DL_law_748 DL_law_749 DL_law_750 DL_law_751 DL_law_752 hk hn hi hN (by decide) ?_
  refine v_arg hx DL_law_753 DL_law_754 DL_law_755 DL_law_756 DL_law_757 hk hn hi hN (by decide) ?_
  refine v_cVi hx DL_law_758 CVRL_82 [iv (gT G ns (i + 1)), iv (gT G ns (i + 2))] (r_asked l G Λ sz m1 hR ra hgd ⟨X, rx⟩ (hT _) (hT _)) hR.o rfl rfl (Nat.le_of_ble_eq_true rfl) (by decide) hcs (fun z2 m2 h2 => ?_)
  have ez := h2.1
  subst ez
  refine v_ceq hx DL_law_761 ?_
  exact kk _ (c.next k1 h2.2.ou (r1.rq h2.2) ⟨hgd, hhg, hig⟩)
theorem law_c16 {l : Launch} {G : Gl} {x : Fx} {cs : Nat × Nat} {Λ : Lay} {sz g b ns : Nat} {μ : Mem} {i : Int} (hx : XOK l G x code RL 4 12 (600000, 7302250)) (hcs : cs.1 ≤ 600000 ∧ cs.2 ≤ 7302250) (hk : Λ b = some (.inr (9, ns, []))) (hn : ns < 2) (hi : 0 ≤ i ∧ i + 6 ≤ gN G ns) (hN : gN G ns ≤ 3072) (hT : ∀ j : Int, inR (gT G ns j)) (cL : LX G Λ g μ) (kk : ∀ μ', LX G Λ g μ' → V G x cs Λ sz μ' 1418 [(3, iv i), (2, .ref (g + 401)), (1, .ref g), (0, .ref b)] []) : V G x cs Λ sz μ 766 [(3, iv i), (2, .ref (g + 401)), (1, .ref g), (0, .ref b)] [] := by
  obtain ⟨b0, h, im, T, S, c⟩ := cL
  obtain ⟨⟨hG, hI, hR⟩, hC, hRS, hgd, hhg, hig⟩ := id c
  refine v_aload hx DL_law_766 2 rfl ?_
  refine v_arg hx DL_law_767 DL_law_768 DL_law_769 DL_law_770 DL_law_771 hk hn hi hN (by decide) ?_
  refine v_arg hx DL_law_772 DL_law_773 DL_law_774 DL_law_775 DL_law_776 hk hn hi hN (by decide) ?_
  refine v_arg hx DL_law_777 DL_law_778 DL_law_779 DL_law_780 DL_law_781 hk hn hi hN (by decide) ?_
  refine v_arg hx DL_law_782 DL_law_783 DL_law_784 DL_law_785 DL_law_786 hk hn hi hN (by decide) ?_
  refine v_cVi hx DL_law_787 CVRL_83 [iv (gT G ns (i + 1)), iv (gT G ns (i + 2)), iv (gT G ns (i + 3)), iv (gT G ns (i + 4))] (p_integral l G Λ sz μ hG hC hI hgd (hT _) (hT _) (hT _) (hT _)) hG.1 rfl rfl (Nat.le_of_ble_eq_true rfl) (by decide) hcs (fun z1 m1 h1 => ?_)
  obtain ⟨rfl, k1⟩ := h1
  have r1 := c.mid k1
  obtain ⟨⟨⟨ρ, ra⟩, rh⟩, ri, rt, rs, X, rx⟩ := id r1
  refine v_aload hx DL_law_790 1 rfl ?_
  refine v_arg hx DL_law_791 DL_law_792 DL_law_793 DL_law_794 DL_law_795 hk hn hi hN (by decide) ?_
  refine v_arg hx DL_law_796 DL_law_797 DL_law_798 DL_law_799 DL_law_800 hk hn hi hN (by decide) ?_
  refine v_arg hx DL_law_801 DL_law_802 DL_law_803 DL_law_804 DL_law_805 hk hn hi hN (by decide) ?_
  refine v_arg hx DL_law_806 DL_law_807 DL_law_808 DL_law_809 DL_law_810 hk hn hi hN (by decide) ?_
  refine v_cVi hx DL_law_811 CVRL_86 [iv (gT G ns (i + 1)), iv (gT G ns (i + 2)), iv (gT G ns (i + 3)), iv (gT G ns (i + 4))] (r_integral l G Λ sz m1 hR ra hgd ⟨X, rx⟩ (hT _) (hT _) (hT _) (hT _)) hR.o rfl rfl (Nat.le_of_ble_eq_true rfl) (by decide) hcs (fun z2 m2 h2 => ?_)
  have ez := h2.1
  subst ez
  refine v_ceq hx DL_law_814 ?_
  exact kk _ (c.next k1 h2.2.ou (r1.rq h2.2) ⟨hgd, hhg, hig⟩)
theorem law_c17 {l : Launch} {G : Gl} {x : Fx} {cs : Nat × Nat} {Λ : Lay} {sz g b ns : Nat} {μ : Mem} {i : Int} (hx : XOK l G x code RL 4 12 (600000, 7302250)) (hcs : cs.1 ≤ 600000 ∧ cs.2 ≤ 7302250) (hk : Λ b = some (.inr (9, ns, []))) (hn : ns < 2) (hi : 0 ≤ i ∧ i + 6 ≤ gN G ns) (hN : gN G ns ≤ 3072) (hT : ∀ j : Int, inR (gT G ns j)) (cL : LX G Λ g μ) (kk : ∀ μ', LX G Λ g μ' → V G x cs Λ sz μ' 1418 [(3, iv i), (2, .ref (g + 401)), (1, .ref g), (0, .ref b)] []) : V G x cs Λ sz μ 819 [(3, iv i), (2, .ref (g + 401)), (1, .ref g), (0, .ref b)] [] := by
  obtain ⟨b0, h, im, T, S, c⟩ := cL
  obtain ⟨⟨hG, hI, hR⟩, hC, hRS, hgd, hhg, hig⟩ := id c
  refine v_aload hx DL_law_819 2 rfl ?_
  refine v_arg hx DL_law_820 DL_law_821 DL_law_822 DL_law_823 DL_law_824 hk hn hi hN (by decide) ?_
  refine v_arg hx DL_law_825 DL_law_826 DL_law_827 DL_law_828 DL_law_829 hk hn hi hN (by decide) ?_
  refine v_arg hx DL_law_830 DL_law_831 DL_law_832 DL_law_833 DL_law_834 hk hn hi hN (by decide) ?_
  refine v_arg hx DL_law_835 DL_law_836 DL_law_837 DL_law_838 DL_law_839 hk hn hi hN (by decide) ?_
  refine v_cVi hx DL_law_840 CVRL_87 [iv (gT G ns (i + 1)), iv (gT G ns (i + 2)), iv (gT G ns (i + 3)), iv (gT G ns (i + 4))] (p_left l G Λ sz μ hG hC hI hgd (hT _) (hT _) (hT _) (hT _)) hG.1 rfl rfl (Nat.le_of_ble_eq_true rfl) (by decide) hcs (fun z1 m1 h1 => ?_)
  obtain ⟨rfl, k1⟩ := h1
  have r1 := c.mid k1
  obtain ⟨⟨⟨ρ, ra⟩, rh⟩, ri, rt, rs, X, rx⟩ := id r1
  refine v_aload hx DL_law_843 1 rfl ?_
  refine v_arg hx DL_law_844 DL_law_845 DL_law_846 DL_law_847 DL_law_848 hk hn hi hN (by decide) ?_
  refine v_arg hx DL_law_849 DL_law_850 DL_law_851 DL_law_852 DL_law_853 hk hn hi hN (by decide) ?_
  refine v_arg hx DL_law_854 DL_law_855 DL_law_856 DL_law_857 DL_law_858 hk hn hi hN (by decide) ?_
  refine v_arg hx DL_law_859 DL_law_860 DL_law_861 DL_law_862 DL_law_863 hk hn hi hN (by decide) ?_
  refine v_cVi hx DL_law_864 CVRL_90 [iv (gT G ns (i + 1)), iv (gT G ns (i + 2)), iv (gT G ns (i + 3)), iv (gT G ns (i + 4))] (r_left l G Λ sz m1 hR ra hgd ⟨X, rx⟩ (hT _) (hT _) (hT _) (hT _)) hR.o rfl rfl (Nat.le_of_ble_eq_true rfl) (by decide) hcs (fun z2 m2 h2 => ?_)
  have ez := h2.1
  subst ez
  refine v_ceq hx DL_law_867 ?_
  exact kk _ (c.next k1 h2.2.ou (r1.rq h2.2) ⟨hgd, hhg, hig⟩)
theorem law_c18 {l : Launch} {G : Gl} {x : Fx} {cs : Nat × Nat} {Λ : Lay} {sz g b ns : Nat} {μ : Mem} {i : Int} (hx : XOK l G x code RL 4 12 (600000, 7302250)) (hcs : cs.1 ≤ 600000 ∧ cs.2 ≤ 7302250) (hk : Λ b = some (.inr (9, ns, []))) (hn : ns < 2) (hi : 0 ≤ i ∧ i + 6 ≤ gN G ns) (hN : gN G ns ≤ 3072) (hT : ∀ j : Int, inR (gT G ns j)) (cL : LX G Λ g μ) (kk : ∀ μ', LX G Λ g μ' → V G x cs Λ sz μ' 1418 [(3, iv i), (2, .ref (g + 401)), (1, .ref g), (0, .ref b)] []) : V G x cs Λ sz μ 872 [(3, iv i), (2, .ref (g + 401)), (1, .ref g), (0, .ref b)] [] := by
  obtain ⟨b0, h, im, T, S, c⟩ := cL
  obtain ⟨⟨hG, hI, hR⟩, hC, hRS, hgd, hhg, hig⟩ := id c
  refine v_aload hx DL_law_872 2 rfl ?_
  refine v_arg hx DL_law_873 DL_law_874 DL_law_875 DL_law_876 DL_law_877 hk hn hi hN (by decide) ?_
  refine v_arg hx DL_law_878 DL_law_879 DL_law_880 DL_law_881 DL_law_882 hk hn hi hN (by decide) ?_
  refine v_cVi hx DL_law_883 CVRL_91 [iv (gT G ns (i + 1)), iv (gT G ns (i + 2))] (p_residue l G Λ sz μ hG hC hI hgd (hT _) (hT _)) hG.1 rfl rfl (Nat.le_of_ble_eq_true rfl) (by decide) hcs (fun z1 m1 h1 => ?_)
  obtain ⟨rfl, k1⟩ := h1
  have r1 := c.mid k1
  obtain ⟨⟨⟨ρ, ra⟩, rh⟩, ri, rt, rs, X, rx⟩ := id r1
  refine v_aload hx DL_law_886 1 rfl ?_
  refine v_arg hx DL_law_887 DL_law_888 DL_law_889 DL_law_890 DL_law_891 hk hn hi hN (by decide) ?_
  refine v_arg hx DL_law_892 DL_law_893 DL_law_894 DL_law_895 DL_law_896 hk hn hi hN (by decide) ?_
  refine v_cVi hx DL_law_897 CVRL_94 [iv (gT G ns (i + 1)), iv (gT G ns (i + 2))] (r_residue l G Λ sz m1 hR ra hgd ⟨X, rx⟩ (hT _) (hT _)) hR.o rfl rfl (Nat.le_of_ble_eq_true rfl) (by decide) hcs (fun z2 m2 h2 => ?_)
  have ez := h2.1
  subst ez
  refine v_ceq hx DL_law_900 ?_
  exact kk _ (c.next k1 h2.2.ou (r1.rq h2.2) ⟨hgd, hhg, hig⟩)
theorem law_c19 {l : Launch} {G : Gl} {x : Fx} {cs : Nat × Nat} {Λ : Lay} {sz g b ns : Nat} {μ : Mem} {i : Int} (hx : XOK l G x code RL 4 12 (600000, 7302250)) (hcs : cs.1 ≤ 600000 ∧ cs.2 ≤ 7302250) (hk : Λ b = some (.inr (9, ns, []))) (hn : ns < 2) (hi : 0 ≤ i ∧ i + 6 ≤ gN G ns) (hN : gN G ns ≤ 3072) (hT : ∀ j : Int, inR (gT G ns j)) (cL : LX G Λ g μ) (kk : ∀ μ', LX G Λ g μ' → V G x cs Λ sz μ' 1418 [(3, iv i), (2, .ref (g + 401)), (1, .ref g), (0, .ref b)] []) : V G x cs Λ sz μ 905 [(3, iv i), (2, .ref (g + 401)), (1, .ref g), (0, .ref b)] [] := by
  obtain ⟨b0, h, im, T, S, c⟩ := cL
  obtain ⟨⟨hG, hI, hR⟩, hC, hRS, hgd, hhg, hig⟩ := id c
  refine v_aload hx DL_law_905 2 rfl ?_
  refine v_arg hx DL_law_906 DL_law_907 DL_law_908 DL_law_909 DL_law_910 hk hn hi hN (by decide) ?_
  refine v_arg hx DL_law_911 DL_law_912 DL_law_913 DL_law_914 DL_law_915 hk hn hi hN (by decide) ?_
  refine v_arg hx DL_law_916 DL_law_917 DL_law_918 DL_law_919 DL_law_920 hk hn hi hN (by decide) ?_
  refine v_arg hx DL_law_921 DL_law_922 DL_law_923 DL_law_924 DL_law_925 hk hn hi hN (by decide) ?_
  refine v_cVi hx DL_law_926 CVRL_95 [iv (gT G ns (i + 1)), iv (gT G ns (i + 2)), iv (gT G ns (i + 3)), iv (gT G ns (i + 4))] (p_log l G Λ sz μ hG hC hI hgd (hT _) (hT _) (hT _) (hT _)) hG.1 rfl rfl (Nat.le_of_ble_eq_true rfl) (by decide) hcs (fun z1 m1 h1 => ?_)
  obtain ⟨rfl, k1⟩ := h1
  have r1 := c.mid k1
  obtain ⟨⟨⟨ρ, ra⟩, rh⟩, ri, rt, rs, X, rx⟩ := id r1
  refine v_aload hx DL_law_929 1 rfl ?_
  refine v_arg hx DL_law_930 DL_law_931 DL_law_932 DL_law_933 DL_law_934 hk hn hi hN (by decide) ?_
  refine v_arg hx DL_law_935 DL_law_936 DL_law_937 DL_law_938 DL_law_939 hk hn hi hN (by decide) ?_
  refine v_arg hx DL_law_940 DL_law_941 DL_law_942 DL_law_943 DL_law_944 hk hn hi hN (by decide) ?_
  refine v_arg hx DL_law_945 DL_law_946 DL_law_947 DL_law_948 DL_law_949 hk hn hi hN (by decide) ?_
  refine v_cVi hx DL_law_950 CVRL_98 [iv (gT G ns (i + 1)), iv (gT G ns (i + 2)), iv (gT G ns (i + 3)), iv (gT G ns (i + 4))] (r_log l G Λ sz m1 hR ra hgd ⟨X, rx⟩ (hT _) (hT _) (hT _) (hT _)) hR.o rfl rfl (Nat.le_of_ble_eq_true rfl) (by decide) hcs (fun z2 m2 h2 => ?_)
  have ez := h2.1
  subst ez
  refine v_ceq hx DL_law_953 ?_
  exact kk _ (c.next k1 h2.2.ou (r1.rq h2.2) ⟨hgd, hhg, hig⟩)
theorem law_c20 {l : Launch} {G : Gl} {x : Fx} {cs : Nat × Nat} {Λ : Lay} {sz g b ns : Nat} {μ : Mem} {i : Int} (hx : XOK l G x code RL 4 12 (600000, 7302250)) (hcs : cs.1 ≤ 600000 ∧ cs.2 ≤ 7302250) (hk : Λ b = some (.inr (9, ns, []))) (hn : ns < 2) (hi : 0 ≤ i ∧ i + 6 ≤ gN G ns) (hN : gN G ns ≤ 3072) (hT : ∀ j : Int, inR (gT G ns j)) (cL : LX G Λ g μ) (kk : ∀ μ', LX G Λ g μ' → V G x cs Λ sz μ' 1418 [(3, iv i), (2, .ref (g + 401)), (1, .ref g), (0, .ref b)] []) : V G x cs Λ sz μ 958 [(3, iv i), (2, .ref (g + 401)), (1, .ref g), (0, .ref b)] [] := by
  obtain ⟨b0, h, im, T, S, c⟩ := cL
  obtain ⟨⟨hG, hI, hR⟩, hC, hRS, hgd, hhg, hig⟩ := id c
  refine v_aload hx DL_law_958 2 rfl ?_
  refine v_arg hx DL_law_959 DL_law_960 DL_law_961 DL_law_962 DL_law_963 hk hn hi hN (by decide) ?_
  refine v_arg hx DL_law_964 DL_law_965 DL_law_966 DL_law_967 DL_law_968 hk hn hi hN (by decide) ?_
  refine v_arg hx DL_law_969 DL_law_970 DL_law_971 DL_law_972 DL_law_973 hk hn hi hN (by decide) ?_
  refine v_cVi hx DL_law_974 CVRL_99 [iv (gT G ns (i + 1)), iv (gT G ns (i + 2)), iv (gT G ns (i + 3))] (p_pencil l G Λ sz μ hG hC hI hgd (hT _) (hT _) (hT _)) hG.1 rfl rfl (Nat.le_of_ble_eq_true rfl) (by decide) hcs (fun z1 m1 h1 => ?_)
  obtain ⟨rfl, k1⟩ := h1
  have r1 := c.mid k1
  obtain ⟨⟨⟨ρ, ra⟩, rh⟩, ri, rt, rs, X, rx⟩ := id r1
  refine v_aload hx DL_law_977 1 rfl ?_
  refine v_arg hx DL_law_978 DL_law_979 DL_law_980 DL_law_981 DL_law_982 hk hn hi hN (by decide) ?_
  refine v_arg hx DL_law_983 DL_law_984 DL_law_985 DL_law_986 DL_law_987 hk hn hi hN (by decide) ?_
  refine v_arg hx DL_law_988 DL_law_989 DL_law_990 DL_law_991 DL_law_992 hk hn hi hN (by decide) ?_
  refine v_cVi hx DL_law_993 CVRL_102 [iv (gT G ns (i + 1)), iv (gT G ns (i + 2)), iv (gT G ns (i + 3))] (r_pencil l G Λ sz m1 hR ra hgd ⟨X, rx⟩ (hT _) (hT _) (hT _)) hR.o rfl rfl (Nat.le_of_ble_eq_true rfl) (by decide) hcs (fun z2 m2 h2 => ?_)
  have ez := h2.1
  subst ez
  refine v_ceq hx DL_law_996 ?_
  exact kk _ (c.next k1 h2.2.ou (r1.rq h2.2) ⟨hgd, hhg, hig⟩)
theorem law_c21 {l : Launch} {G : Gl} {x : Fx} {cs : Nat × Nat} {Λ : Lay} {sz g b ns : Nat} {μ : Mem} {i : Int} (hx : XOK l G x code RL 4 12 (600000, 7302250)) (hcs : cs.1 ≤ 600000 ∧ cs.2 ≤ 7302250) (hk : Λ b = some (.inr (9, ns, []))) (hn : ns < 2) (hi : 0 ≤ i ∧ i + 6 ≤ gN G ns) (hN : gN G ns ≤ 3072) (hT : ∀ j : Int, inR (gT G ns j)) (cL : LX G Λ g μ) (kk : ∀ μ', LX G Λ g μ' → V G x cs Λ sz μ' 1418 [(3, iv i), (2, .ref (g + 401)), (1, .ref g), (0, .ref b)] []) : V G x cs Λ sz μ 1001 [(3, iv i), (2, .ref (g + 401)), (1, .ref g), (0, .ref b)] [] := by
  obtain ⟨b0, h, im, T, S, c⟩ := cL
  obtain ⟨⟨hG, hI, hR⟩, hC, hRS, hgd, hhg, hig⟩ := id c
  refine v_aload hx DL_law_1001 2 rfl ?_
  refine v_cVi hx DL_law_1002 CVRL_103 [] (p_image l G Λ sz μ hG hC hI hgd ) hG.1 rfl rfl (Nat.le_of_ble_eq_true rfl) (by decide) hcs (fun z1 m1 h1 => ?_)
  obtain ⟨rfl, k1⟩ := h1
  have r1 := c.mid k1
  obtain ⟨⟨⟨ρ, ra⟩, rh⟩, ri, rt, rs, X, rx⟩ := id r1
  refine v_aload hx DL_law_1005 1 rfl ?_
  refine v_cVi hx DL_law_1006 CVRL_106 [] (r_image l G Λ sz m1 hR ra rh ) hR.o rfl rfl (Nat.le_of_ble_eq_true rfl) (by decide) hcs (fun z2 m2 h2 => ?_)
  have ez := h2.1
  subst ez
  refine v_ceq hx DL_law_1009 ?_
  exact kk _ (c.next k1 (h2.2.2.ou (by simp)) (r1.im h2.2.1 h2.2.2 ⟨(by simp), (by simp), (by simp), (by simp), (by simp), (by simp), (by simp)⟩ ⟨(by simp), (by simp), (by simp), (by simp), (by simp)⟩) ⟨hgd, hhg, fun c k e => by cases e; exact ⟨hgd, hhg⟩⟩)
theorem law_c22 {l : Launch} {G : Gl} {x : Fx} {cs : Nat × Nat} {Λ : Lay} {sz g b ns : Nat} {μ : Mem} {i : Int} (hx : XOK l G x code RL 4 12 (600000, 7302250)) (hcs : cs.1 ≤ 600000 ∧ cs.2 ≤ 7302250) (hk : Λ b = some (.inr (9, ns, []))) (hn : ns < 2) (hi : 0 ≤ i ∧ i + 6 ≤ gN G ns) (hN : gN G ns ≤ 3072) (hT : ∀ j : Int, inR (gT G ns j)) (cL : LX G Λ g μ) (kk : ∀ μ', LX G Λ g μ' → V G x cs Λ sz μ' 1418 [(3, iv i), (2, .ref (g + 401)), (1, .ref g), (0, .ref b)] []) : V G x cs Λ sz μ 1014 [(3, iv i), (2, .ref (g + 401)), (1, .ref g), (0, .ref b)] [] := by
  obtain ⟨b0, h, im, T, S, c⟩ := cL
  obtain ⟨⟨hG, hI, hR⟩, hC, hRS, hgd, hhg, hig⟩ := id c
  refine v_aload hx DL_law_1014 2 rfl ?_
  refine v_cVi hx DL_law_1015 CVRL_107 [] (p_restore l G Λ sz μ hG hC hI hgd ) hG.1 rfl rfl (Nat.le_of_ble_eq_true rfl) (by decide) hcs (fun z1 m1 h1 => ?_)
  obtain ⟨rfl, k1⟩ := h1
  have r1 := c.mid k1
  obtain ⟨⟨⟨ρ, ra⟩, rh⟩, ri, rt, rs, X, rx⟩ := id r1
  refine v_aload hx DL_law_1018 1 rfl ?_
  refine v_cVi hx DL_law_1019 CVRL_110 [] (r_restore l G Λ sz m1 hR (h := h) ra ri ) hR.o rfl rfl (Nat.le_of_ble_eq_true rfl) (by decide) hcs (fun z2 m2 h2 => ?_)
  have h2 := rest_one ra rh h2
  have ez := h2.1
  subst ez
  refine v_ceq hx DL_law_1022 ?_
  exact kk _ (c.next k1 (h2.2.2.ou (by simp)) (r1.st h2.2.1 h2.2.2 ⟨(by simp), (by simp), (by simp), (by simp), (by simp)⟩ ⟨(by simp), (by simp), (by simp), (by simp)⟩) (have q := rsoB_good hgd hhg hig; ⟨q.1, q.2, hig⟩))
theorem law_c23 {l : Launch} {G : Gl} {x : Fx} {cs : Nat × Nat} {Λ : Lay} {sz g b ns : Nat} {μ : Mem} {i : Int} (hx : XOK l G x code RL 4 12 (600000, 7302250)) (hcs : cs.1 ≤ 600000 ∧ cs.2 ≤ 7302250) (hk : Λ b = some (.inr (9, ns, []))) (hn : ns < 2) (hi : 0 ≤ i ∧ i + 6 ≤ gN G ns) (hN : gN G ns ≤ 3072) (hT : ∀ j : Int, inR (gT G ns j)) (cL : LX G Λ g μ) (kk : ∀ μ', LX G Λ g μ' → V G x cs Λ sz μ' 1418 [(3, iv i), (2, .ref (g + 401)), (1, .ref g), (0, .ref b)] []) : V G x cs Λ sz μ 1027 [(3, iv i), (2, .ref (g + 401)), (1, .ref g), (0, .ref b)] [] := by
  obtain ⟨b0, h, im, T, S, c⟩ := cL
  obtain ⟨⟨hG, hI, hR⟩, hC, hRS, hgd, hhg, hig⟩ := id c
  refine v_aload hx DL_law_1027 2 rfl ?_
  refine v_arg hx DL_law_1028 DL_law_1029 DL_law_1030 DL_law_1031 DL_law_1032 hk hn hi hN (by decide) ?_
  refine v_arg hx DL_law_1033 DL_law_1034 DL_law_1035 DL_law_1036 DL_law_1037 hk hn hi hN (by decide) ?_
  refine v_arg hx DL_law_1038 DL_law_1039 DL_law_1040 DL_law_1041 DL_law_1042 hk hn hi hN (by decide) ?_
  refine v_arg hx DL_law_1043 DL_law_1044 DL_law_1045 DL_law_1046 DL_law_1047 hk hn hi hN (by decide) ?_
  refine v_cVi hx DL_law_1048 CVRL_111 [iv (gT G ns (i + 1)), iv (gT G ns (i + 2)), iv (gT G ns (i + 3)), iv (gT G ns (i + 4))] (p_seen l G Λ sz μ hG hC hI hgd (hT _) (hT _) (hT _) (hT _)) hG.1 rfl rfl (Nat.le_of_ble_eq_true rfl) (by decide) hcs (fun z1 m1 h1 => ?_)
  obtain ⟨rfl, k1⟩ := h1
  have r1 := c.mid k1
  obtain ⟨⟨⟨ρ, ra⟩, rh⟩, ri, rt, rs, X, rx⟩ := id r1
  refine v_aload hx DL_law_1051 1 rfl ?_
  refine v_arg hx DL_law_1052 DL_law_1053 DL_law_1054 DL_law_1055 DL_law_1056 hk hn hi hN (by decide) ?_
  refine v_arg hx DL_law_1057 DL_law_1058 DL_law_1059 DL_law_1060 DL_law_1061 hk hn hi hN (by decide) ?_
  refine v_arg hx DL_law_1062 DL_law_1063 DL_law_1064 DL_law_1065 DL_law_1066 hk hn hi hN (by decide) ?_
  refine v_arg hx DL_law_1067 DL_law_1068 DL_law_1069 DL_law_1070 DL_law_1071 hk hn hi hN (by decide) ?_
  refine v_cVp hx DL_law_1072 CVRL_114 [iv (gT G ns (i + 1)), iv (gT G ns (i + 2)), iv (gT G ns (i + 3)), iv (gT G ns (i + 4))] (r_seen l G Λ sz m1 hR ra rs (hT _) (hT _) (hT _) (hT _)) hR.o rfl rfl (Nat.le_of_ble_eq_true rfl) (by decide) hcs ?_
  refine v_ceq hx DL_law_1075 ?_
  exact kk _ (c.next k1 OuR.rf r1 ⟨hgd, hhg, hig⟩)
theorem law_c24 {l : Launch} {G : Gl} {x : Fx} {cs : Nat × Nat} {Λ : Lay} {sz g b ns : Nat} {μ : Mem} {i : Int} (hx : XOK l G x code RL 4 12 (600000, 7302250)) (hcs : cs.1 ≤ 600000 ∧ cs.2 ≤ 7302250) (hk : Λ b = some (.inr (9, ns, []))) (hn : ns < 2) (hi : 0 ≤ i ∧ i + 6 ≤ gN G ns) (hN : gN G ns ≤ 3072) (hT : ∀ j : Int, inR (gT G ns j)) (cL : LX G Λ g μ) (kk : ∀ μ', LX G Λ g μ' → V G x cs Λ sz μ' 1418 [(3, iv i), (2, .ref (g + 401)), (1, .ref g), (0, .ref b)] []) : V G x cs Λ sz μ 1080 [(3, iv i), (2, .ref (g + 401)), (1, .ref g), (0, .ref b)] [] := by
  obtain ⟨b0, h, im, T, S, c⟩ := cL
  obtain ⟨⟨hG, hI, hR⟩, hC, hRS, hgd, hhg, hig⟩ := id c
  refine v_aload hx DL_law_1080 2 rfl ?_
  refine v_arg hx DL_law_1081 DL_law_1082 DL_law_1083 DL_law_1084 DL_law_1085 hk hn hi hN (by decide) ?_
  refine v_arg hx DL_law_1086 DL_law_1087 DL_law_1088 DL_law_1089 DL_law_1090 hk hn hi hN (by decide) ?_
  refine v_arg hx DL_law_1091 DL_law_1092 DL_law_1093 DL_law_1094 DL_law_1095 hk hn hi hN (by decide) ?_
  refine v_arg hx DL_law_1096 DL_law_1097 DL_law_1098 DL_law_1099 DL_law_1100 hk hn hi hN (by decide) ?_
  refine v_arg hx DL_law_1101 DL_law_1102 DL_law_1103 DL_law_1104 DL_law_1105 hk hn hi hN (by decide) ?_
  refine v_cVi hx DL_law_1106 CVRL_115 [iv (gT G ns (i + 1)), iv (gT G ns (i + 2)), iv (gT G ns (i + 3)), iv (gT G ns (i + 4)), iv (gT G ns (i + 5))] (p_lay l G Λ sz μ hG hC hI hgd (hT _) (hT _) (hT _) (hT _) (hT _)) hG.1 rfl rfl (Nat.le_of_ble_eq_true rfl) (by decide) hcs (fun z1 m1 h1 => ?_)
  obtain ⟨rfl, k1⟩ := h1
  have r1 := c.mid k1
  obtain ⟨⟨⟨ρ, ra⟩, rh⟩, ri, rt, rs, X, rx⟩ := id r1
  refine v_aload hx DL_law_1109 1 rfl ?_
  refine v_arg hx DL_law_1110 DL_law_1111 DL_law_1112 DL_law_1113 DL_law_1114 hk hn hi hN (by decide) ?_
  refine v_arg hx DL_law_1115 DL_law_1116 DL_law_1117 DL_law_1118 DL_law_1119 hk hn hi hN (by decide) ?_
  refine v_arg hx DL_law_1120 DL_law_1121 DL_law_1122 DL_law_1123 DL_law_1124 hk hn hi hN (by decide) ?_
  refine v_arg hx DL_law_1125 DL_law_1126 DL_law_1127 DL_law_1128 DL_law_1129 hk hn hi hN (by decide) ?_
  refine v_arg hx DL_law_1130 DL_law_1131 DL_law_1132 DL_law_1133 DL_law_1134 hk hn hi hN (by decide) ?_
  refine v_cVi hx DL_law_1135 CVRL_118 [iv (gT G ns (i + 1)), iv (gT G ns (i + 2)), iv (gT G ns (i + 3)), iv (gT G ns (i + 4)), iv (gT G ns (i + 5))] (r_lay l G Λ sz m1 hR ra rh rs (hT _) (hT _) (hT _) (hT _) (hT _)) hR.o rfl rfl (Nat.le_of_ble_eq_true rfl) (by decide) hcs (fun z2 m2 h2 => ?_)
  have ez := h2.1
  subst ez
  refine v_ceq hx DL_law_1138 ?_
  exact kk _ (c.next k1 (h2.2.2.ou (by simp)) (r1.st h2.2.1 h2.2.2 ⟨(by simp), (by simp), (by simp), (by simp), (by simp)⟩ ⟨(by simp), (by simp), (by simp), (by simp)⟩) (have q := layB_good hgd hhg; ⟨q.1, q.2, hig⟩))
theorem law_c25 {l : Launch} {G : Gl} {x : Fx} {cs : Nat × Nat} {Λ : Lay} {sz g b ns : Nat} {μ : Mem} {i : Int} (hx : XOK l G x code RL 4 12 (600000, 7302250)) (hcs : cs.1 ≤ 600000 ∧ cs.2 ≤ 7302250) (hk : Λ b = some (.inr (9, ns, []))) (hn : ns < 2) (hi : 0 ≤ i ∧ i + 6 ≤ gN G ns) (hN : gN G ns ≤ 3072) (hT : ∀ j : Int, inR (gT G ns j)) (cL : LX G Λ g μ) (kk : ∀ μ', LX G Λ g μ' → V G x cs Λ sz μ' 1418 [(3, iv i), (2, .ref (g + 401)), (1, .ref g), (0, .ref b)] []) : V G x cs Λ sz μ 1143 [(3, iv i), (2, .ref (g + 401)), (1, .ref g), (0, .ref b)] [] := by
  obtain ⟨b0, h, im, T, S, c⟩ := cL
  obtain ⟨⟨hG, hI, hR⟩, hC, hRS, hgd, hhg, hig⟩ := id c
  refine v_aload hx DL_law_1143 2 rfl ?_
  refine v_arg hx DL_law_1144 DL_law_1145 DL_law_1146 DL_law_1147 DL_law_1148 hk hn hi hN (by decide) ?_
  refine v_arg hx DL_law_1149 DL_law_1150 DL_law_1151 DL_law_1152 DL_law_1153 hk hn hi hN (by decide) ?_
  refine v_arg hx DL_law_1154 DL_law_1155 DL_law_1156 DL_law_1157 DL_law_1158 hk hn hi hN (by decide) ?_
  refine v_arg hx DL_law_1159 DL_law_1160 DL_law_1161 DL_law_1162 DL_law_1163 hk hn hi hN (by decide) ?_
  refine v_arg hx DL_law_1164 DL_law_1165 DL_law_1166 DL_law_1167 DL_law_1168 hk hn hi hN (by decide) ?_
  refine v_cVi hx DL_law_1169 CVRL_119 [iv (gT G ns (i + 1)), iv (gT G ns (i + 2)), iv (gT G ns (i + 3)), iv (gT G ns (i + 4)), iv (gT G ns (i + 5))] (p_film l G Λ sz μ hG hC hI hgd (hT _) (hT _) (hT _) (hT _) (hT _)) hG.1 rfl rfl (Nat.le_of_ble_eq_true rfl) (by decide) hcs (fun z1 m1 h1 => ?_)
  obtain ⟨rfl, k1⟩ := h1
  have r1 := c.mid k1
  obtain ⟨⟨⟨ρ, ra⟩, rh⟩, ri, rt, rs, X, rx⟩ := id r1
  refine v_aload hx DL_law_1172 1 rfl ?_
  refine v_arg hx DL_law_1173 DL_law_1174 DL_law_1175 DL_law_1176 DL_law_1177 hk hn hi hN (by decide) ?_
  refine v_arg hx DL_law_1178 DL_law_1179 DL_law_1180 DL_law_1181 DL_law_1182 hk hn hi hN (by decide) ?_
  refine v_arg hx DL_law_1183 DL_law_1184 DL_law_1185 DL_law_1186 DL_law_1187 hk hn hi hN (by decide) ?_
  refine v_arg hx DL_law_1188 DL_law_1189 DL_law_1190 DL_law_1191 DL_law_1192 hk hn hi hN (by decide) ?_
  refine v_arg hx DL_law_1193 DL_law_1194 DL_law_1195 DL_law_1196 DL_law_1197 hk hn hi hN (by decide) ?_
  refine v_cVi hx DL_law_1198 CVRL_122 [iv (gT G ns (i + 1)), iv (gT G ns (i + 2)), iv (gT G ns (i + 3)), iv (gT G ns (i + 4)), iv (gT G ns (i + 5))] (r_film l G Λ sz m1 hR ra rs (hT _) (hT _) (hT _) (hT _) (hT _)) hR.o rfl rfl (Nat.le_of_ble_eq_true rfl) (by decide) hcs (fun z2 m2 h2 => ?_)
  have ez := h2.1
  subst ez
  refine v_ceq hx DL_law_1201 ?_
  exact kk _ (c.next k1 h2.2.2.ou (r1.sh h2.2.1 h2.2.2) ⟨hgd, hhg, hig⟩)
theorem law_c26 {l : Launch} {G : Gl} {x : Fx} {cs : Nat × Nat} {Λ : Lay} {sz g b ns : Nat} {μ : Mem} {i : Int} (hx : XOK l G x code RL 4 12 (600000, 7302250)) (hcs : cs.1 ≤ 600000 ∧ cs.2 ≤ 7302250) (hk : Λ b = some (.inr (9, ns, []))) (hn : ns < 2) (hi : 0 ≤ i ∧ i + 6 ≤ gN G ns) (hN : gN G ns ≤ 3072) (hT : ∀ j : Int, inR (gT G ns j)) (cL : LX G Λ g μ) (kk : ∀ μ', LX G Λ g μ' → V G x cs Λ sz μ' 1418 [(3, iv i), (2, .ref (g + 401)), (1, .ref g), (0, .ref b)] []) : V G x cs Λ sz μ 1206 [(3, iv i), (2, .ref (g + 401)), (1, .ref g), (0, .ref b)] [] := by
  obtain ⟨b0, h, im, T, S, c⟩ := cL
  obtain ⟨⟨hG, hI, hR⟩, hC, hRS, hgd, hhg, hig⟩ := id c
  refine v_aload hx DL_law_1206 2 rfl ?_
  refine v_arg hx DL_law_1207 DL_law_1208 DL_law_1209 DL_law_1210 DL_law_1211 hk hn hi hN (by decide) ?_
  refine v_arg hx DL_law_1212 DL_law_1213 DL_law_1214 DL_law_1215 DL_law_1216 hk hn hi hN (by decide) ?_
  refine v_arg hx DL_law_1217 DL_law_1218 DL_law_1219 DL_law_1220 DL_law_1221 hk hn hi hN (by decide) ?_
  refine v_cVi hx DL_law_1222 CVRL_123 [iv (gT G ns (i + 1)), iv (gT G ns (i + 2)), iv (gT G ns (i + 3))] (p_sheet l G Λ sz μ hG hC hI hgd (hT _) (hT _) (hT _)) hG.1 rfl rfl (Nat.le_of_ble_eq_true rfl) (by decide) hcs (fun z1 m1 h1 => ?_)
  obtain ⟨rfl, k1⟩ := h1
  have r1 := c.mid k1
  obtain ⟨⟨⟨ρ, ra⟩, rh⟩, ri, rt, rs, X, rx⟩ := id r1
  refine v_aload hx DL_law_1225 1 rfl ?_
  refine v_arg hx DL_law_1226 DL_law_1227 DL_law_1228 DL_law_1229 DL_law_1230 hk hn hi hN (by decide) ?_
  refine v_arg hx DL_law_1231 DL_law_1232 DL_law_1233 DL_law_1234 DL_law_1235 hk hn hi hN (by decide) ?_
  refine v_arg hx DL_law_1236 DL_law_1237 DL_law_1238 DL_law_1239 DL_law_1240 hk hn hi hN (by decide) ?_
  refine v_cVi hx DL_law_1241 CVRL_126 [iv (gT G ns (i + 1)), iv (gT G ns (i + 2)), iv (gT G ns (i + 3))] (r_sheet l G Λ sz m1 hR rs (hT _) (hT _) (hT _)) hR.o rfl rfl (Nat.le_of_ble_eq_true rfl) (by decide) hcs (fun z2 m2 h2 => ?_)
  have ez := h2.1
  subst ez
  refine v_ceq hx DL_law_1244 ?_
  exact kk _ (c.next k1 h2.2.2.ou (r1.sh h2.2.1 h2.2.2) ⟨hgd, hhg, hig⟩)
theorem law_c27 {l : Launch} {G : Gl} {x : Fx} {cs : Nat × Nat} {Λ : Lay} {sz g b ns : Nat} {μ : Mem} {i : Int} (hx : XOK l G x code RL 4 12 (600000, 7302250)) (hcs : cs.1 ≤ 600000 ∧ cs.2 ≤ 7302250) (hk : Λ b = some (.inr (9, ns, []))) (hn : ns < 2) (hi : 0 ≤ i ∧ i + 6 ≤ gN G ns) (hN : gN G ns ≤ 3072) (hT : ∀ j : Int, inR (gT G ns j)) (cL : LX G Λ g μ) (kk : ∀ μ', LX G Λ g μ' → V G x cs Λ sz μ' 1418 [(3, iv i), (2, .ref (g + 401)), (1, .ref g), (0, .ref b)] []) : V G x cs Λ sz μ 1249 [(3, iv i), (2, .ref (g + 401)), (1, .ref g), (0, .ref b)] [] := by
  obtain ⟨b0, h, im, T, S, c⟩ := cL
  obtain ⟨⟨hG, hI, hR⟩, hC, hRS, hgd, hhg, hig⟩ := id c
  refine v_aload hx DL_law_1249 2 rfl ?_
  refine v_arg hx DL_law_1250 DL_law_1251 DL_law_1252 DL_law_1253 DL_law_1254 hk hn hi hN (by decide) ?_
  refine v_cVi hx DL_law_1255 CVRL_127 [iv (gT G ns (i + 1))] (p_drop l G Λ sz μ hG hC hI hgd (hT _)) hG.1 rfl rfl (Nat.le_of_ble_eq_true rfl) (by decide) hcs (fun z1 m1 h1 => ?_)
  obtain ⟨rfl, k1⟩ := h1
  have r1 := c.mid k1
  obtain ⟨⟨⟨ρ, ra⟩, rh⟩, ri, rt, rs, X, rx⟩ := id r1
  refine v_aload hx DL_law_1258 1 rfl ?_
  refine v_arg hx DL_law_1259 DL_law_1260 DL_law_1261 DL_law_1262 DL_law_1263 hk hn hi hN (by decide) ?_
  refine v_cVi hx DL_law_1264 CVRL_130 [iv (gT G ns (i + 1))] (r_drop l G Λ sz m1 hR rs (hT _)) hR.o rfl rfl (Nat.le_of_ble_eq_true rfl) (by decide) hcs (fun z2 m2 h2 => ?_)
  have ez := h2.1
  subst ez
  refine v_ceq hx DL_law_1267 ?_
  exact kk _ (c.next k1 h2.2.2.ou (r1.sh h2.2.1 h2.2.2) ⟨hgd, hhg, hig⟩)
theorem law_c28 {l : Launch} {G : Gl} {x : Fx} {cs : Nat × Nat} {Λ : Lay} {sz g b ns : Nat} {μ : Mem} {i : Int} (hx : XOK l G x code RL 4 12 (600000, 7302250)) (hcs : cs.1 ≤ 600000 ∧ cs.2 ≤ 7302250) (hk : Λ b = some (.inr (9, ns, []))) (hn : ns < 2) (hi : 0 ≤ i ∧ i + 6 ≤ gN G ns) (hN : gN G ns ≤ 3072) (hT : ∀ j : Int, inR (gT G ns j)) (cL : LX G Λ g μ) (kk : ∀ μ', LX G Λ g μ' → V G x cs Λ sz μ' 1418 [(3, iv i), (2, .ref (g + 401)), (1, .ref g), (0, .ref b)] []) : V G x cs Λ sz μ 1272 [(3, iv i), (2, .ref (g + 401)), (1, .ref g), (0, .ref b)] [] := by
  obtain ⟨b0, h, im, T, S, c⟩ := cL
  obtain ⟨⟨hG, hI, hR⟩, hC, hRS, hgd, hhg, hig⟩ := id c
  refine v_aload hx DL_law_1272 2 rfl ?_
  refine v_arg hx DL_law_1273 DL_law_1274 DL_law_1275 DL_law_1276 DL_law_1277 hk hn hi hN (by decide) ?_
  refine v_arg hx DL_law_1278 DL_law_1279 DL_law_1280 DL_law_1281 DL_law_1282 hk hn hi hN (by decide) ?_
  refine v_arg hx DL_law_1283 DL_law_1284 DL_law_1285 DL_law_1286 DL_law_1287 hk hn hi hN (by decide) ?_
  refine v_arg hx DL_law_1288 DL_law_1289 DL_law_1290 DL_law_1291 DL_law_1292 hk hn hi hN (by decide) ?_
  refine v_i2l hx DL_law_1293 rfl ?_
  refine v_push hx DL_law_1294 ?_
  refine v_lshl hx DL_law_1296 rfl ?_
  refine v_arg hx DL_law_1297 DL_law_1298 DL_law_1299 DL_law_1300 DL_law_1301 hk hn hi hN (by decide) ?_
  refine v_i2l hx DL_law_1302 rfl ?_
  refine v_ldc2 hx DL_law_1303 cnRL_131 ?_
  refine v_land hx DL_law_1306 ?_
  refine v_lor hx DL_law_1307 ?_
  refine v_cVi hx DL_law_1308 CVRL_133 [iv (gT G ns (i + 1)), iv (gT G ns (i + 2)), iv (gT G ns (i + 3)), .long ((Int32.ofInt (gT G ns (i + 4))).toInt64 <<< ((Int32.ofInt 32).toInt64 &&& 63) ||| ((Int32.ofInt (gT G ns (i + 5))).toInt64 &&& 4294967295))] (p_item l G Λ sz μ hG hC hI hgd (hT _) (hT _) (hT _)) hG.1 rfl rfl (Nat.le_of_ble_eq_true rfl) (by decide) hcs (fun z1 m1 h1 => ?_)
  obtain ⟨rfl, k1⟩ := h1
  have r1 := c.mid k1
  obtain ⟨⟨⟨ρ, ra⟩, rh⟩, ri, rt, rs, X, rx⟩ := id r1
  refine v_aload hx DL_law_1311 1 rfl ?_
  refine v_arg hx DL_law_1312 DL_law_1313 DL_law_1314 DL_law_1315 DL_law_1316 hk hn hi hN (by decide) ?_
  refine v_arg hx DL_law_1317 DL_law_1318 DL_law_1319 DL_law_1320 DL_law_1321 hk hn hi hN (by decide) ?_
  refine v_arg hx DL_law_1322 DL_law_1323 DL_law_1324 DL_law_1325 DL_law_1326 hk hn hi hN (by decide) ?_
  refine v_arg hx DL_law_1327 DL_law_1328 DL_law_1329 DL_law_1330 DL_law_1331 hk hn hi hN (by decide) ?_
  refine v_i2l hx DL_law_1332 rfl ?_
  refine v_push hx DL_law_1333 ?_
  refine v_lshl hx DL_law_1335 rfl ?_
  refine v_arg hx DL_law_1336 DL_law_1337 DL_law_1338 DL_law_1339 DL_law_1340 hk hn hi hN (by decide) ?_
  refine v_i2l hx DL_law_1341 rfl ?_
  refine v_ldc2 hx DL_law_1342 cnRL_131 ?_
  refine v_land hx DL_law_1345 ?_
  refine v_lor hx DL_law_1346 ?_
  refine v_cVi hx DL_law_1347 CVRL_137 [iv (gT G ns (i + 1)), iv (gT G ns (i + 2)), iv (gT G ns (i + 3)), .long ((Int32.ofInt (gT G ns (i + 4))).toInt64 <<< ((Int32.ofInt 32).toInt64 &&& 63) ||| ((Int32.ofInt (gT G ns (i + 5))).toInt64 &&& 4294967295))] (r_item l G Λ sz m1 hR rs (hT _) (hT _) (hT _)) hR.o rfl rfl (Nat.le_of_ble_eq_true rfl) (by decide) hcs (fun z2 m2 h2 => ?_)
  have ez := h2.1
  subst ez
  refine v_ceq hx DL_law_1350 ?_
  exact kk _ (c.next k1 h2.2.2.ou (r1.sh h2.2.1 h2.2.2) ⟨hgd, hhg, hig⟩)
theorem law_c29 {l : Launch} {G : Gl} {x : Fx} {cs : Nat × Nat} {Λ : Lay} {sz g b ns : Nat} {μ : Mem} {i : Int} (hx : XOK l G x code RL 4 12 (600000, 7302250)) (hcs : cs.1 ≤ 600000 ∧ cs.2 ≤ 7302250) (hk : Λ b = some (.inr (9, ns, []))) (hn : ns < 2) (hi : 0 ≤ i ∧ i + 6 ≤ gN G ns) (hN : gN G ns ≤ 3072) (hT : ∀ j : Int, inR (gT G ns j)) (cL : LX G Λ g μ) (kk : ∀ μ', LX G Λ g μ' → V G x cs Λ sz μ' 1418 [(3, iv i), (2, .ref (g + 401)), (1, .ref g), (0, .ref b)] []) : V G x cs Λ sz μ 1355 [(3, iv i), (2, .ref (g + 401)), (1, .ref g), (0, .ref b)] [] := by
  obtain ⟨b0, h, im, T, S, c⟩ := cL
  obtain ⟨⟨hG, hI, hR⟩, hC, hRS, hgd, hhg, hig⟩ := id c
  refine v_aload hx DL_law_1355 2 rfl ?_
  refine v_arg hx DL_law_1356 DL_law_1357 DL_law_1358 DL_law_1359 DL_law_1360 hk hn hi hN (by decide) ?_
  refine v_arg hx DL_law_1361 DL_law_1362 DL_law_1363 DL_law_1364 DL_law_1365 hk hn hi hN (by decide) ?_
  refine v_arg hx DL_law_1366 DL_law_1367 DL_law_1368 DL_law_1369 DL_law_1370 hk hn hi hN (by decide) ?_
  refine v_arg hx DL_law_1371 DL_law_1372 DL_law_1373 DL_law_1374 DL_law_1375 hk hn hi hN (by decide) ?_
  refine v_arg hx DL_law_1376 DL_law_1377 DL_law_1378 DL_law_1379 DL_law_1380 hk hn hi hN (by decide) ?_
  refine v_cVi hx DL_law_1381 CVRL_138 [iv (gT G ns (i + 1)), iv (gT G ns (i + 2)), iv (gT G ns (i + 3)), iv (gT G ns (i + 4)), iv (gT G ns (i + 5))] (p_copy l G Λ sz μ hG hC hI hgd (hT _) (hT _) (hT _) (hT _) (hT _)) hG.1 rfl rfl (Nat.le_of_ble_eq_true rfl) (by decide) hcs (fun z1 m1 h1 => ?_)
  obtain ⟨rfl, k1⟩ := h1
  have r1 := c.mid k1
  obtain ⟨⟨⟨ρ, ra⟩, rh⟩, ri, rt, rs, X, rx⟩ := id r1
  refine v_aload hx DL_law_1384 1 rfl ?_
  refine v_arg hx DL_law_1385 DL_law_1386 DL_law_1387 DL_law_1388 DL_law_1389 hk hn hi hN (by decide) ?_
  refine v_arg hx DL_law_1390 DL_law_1391 DL_law_1392 DL_law_1393 DL_law_1394 hk hn hi hN (by decide) ?_
  refine v_arg hx DL_law_1395 DL_law_1396 DL_law_1397 DL_law_1398 DL_law_1399 hk hn hi hN (by decide) ?_
  refine v_arg hx DL_law_1400 DL_law_1401 DL_law_1402 DL_law_1403 DL_law_1404 hk hn hi hN (by decide) ?_
  refine v_arg hx DL_law_1405 DL_law_1406 DL_law_1407 DL_law_1408 DL_law_1409 hk hn hi hN (by decide) ?_
  refine v_cVi hx DL_law_1410 CVRL_141 [iv (gT G ns (i + 1)), iv (gT G ns (i + 2)), iv (gT G ns (i + 3)), iv (gT G ns (i + 4)), iv (gT G ns (i + 5))] (r_copy l G Λ sz m1 hR rs (hT _) (hT _) (hT _) (hT _) (hT _)) hR.o rfl rfl (Nat.le_of_ble_eq_true rfl) (by decide) hcs (fun z2 m2 h2 => ?_)
  have ez := h2.1
  subst ez
  refine v_ceq hx DL_law_1413 ?_
  exact kk _ (c.next k1 h2.2.2.ou (r1.sh h2.2.1 h2.2.2) ⟨hgd, hhg, hig⟩)
