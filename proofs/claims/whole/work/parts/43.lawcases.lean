/-! the law's cases -/
/-- what holds of the law's body throughout -/
def lwC (p : Program) (s : State) (m : MethodId) (args : Array Value) (meth : Method) (c : Code) (A : Nat → Prop) (D : va_G) (cI cJ cD cS : ClassId) (tt b0 L : Nat) (xs : Nat → Int32) (cells slots : Nat) : Prop :=
  xC p s m args meth c RL cL_law 4 ret ∧ va_K D vwCl (ty4 cI cJ cD cS) s ∧ zS (some tt) A s s.heap ∧ (∀ q, s.heap.size ≤ q → A q) ∧ va_X b0 L xs s s.heap ∧ b0 < s.heap.size ∧ ¬ A b0 ∧ L ≤ 512 ∧ (cells ≤ room_1.cells ∧ slots ≤ room_1.slots)
abbrev lvL (i : Nat) (a a' : Nat → Nat) (b0 : Nat) : List (Nat × Value) := [(3, .int (nI i)), (2, .ref (a' 0)), (1, .ref (a 0)), (0, .ref b0)]
/-- the two objects agree -/
def good2 (u : sT × sT) : Prop := u.1.1 = u.2.1 ∧ inv u.1.1 ∧ RZ u.1.2.1 u.1.2.2.1 u.2.2.1 u.2.2.2.1
section HDC2
variable {p : Program} {l : Launch} {e : Env} {s : State} {m : MethodId} {args : Array Value} {below : List Frame} {meth : Method} {c : Code} {cells slots : Nat} {A : Nat → Prop} {D : va_G} {Q : State → Prop} {cI cJ cD cS : ClassId} {tt b0 L : Nat} {xs : Nat → Int32} {a a' : Nat → Nat} {i : Nat} {N : Nat → Nat → Nat} {Z E Z' E' : Nat → Nat → Int32} {G G' : Nat → Nat → Int64} {T T' : Nat → Nat}
theorem lc_house (hC : lwC p s m args meth c A D cI cJ cD cS tt b0 L xs cells slots) (hi : i + 8 ≤ L) (hI : inv N) (hR : RZ Z E Z' E') (kk : ∀ u : sT × sT, good2 u → XW p l e room_1 s m args below meth c 4 cells slots A D Q (wP (wX cI cJ cD cS a) (wM cI a')) u 1170 (lvL i a a' b0) []) : XW p l e room_1 s m args below meth c 4 cells slots A D Q (wP (wX cI cJ cD cS a) (wM cI a')) ((N, Z, E, G, T), (N, Z', E', G', T')) 160 (lvL i a a' b0) [] := by
  obtain ⟨C, hK, hZ, hA, hX, hbl, hbA, hL, hcs⟩ := hC
  refine hd_aload_n 161 C dL_law_160 rfl 2 rfl rfl ?_
  refine hl_arg_iconst 166 1 C hX hbl hbA hL dL_law_161 dL_law_162 dL_law_163 dL_law_164 dL_law_165 rfl (by decide) 3 0 rfl rfl (by omega) ?_
  refine hl_arg_iconst 171 2 C hX hbl hbA hL dL_law_166 dL_law_167 dL_law_168 dL_law_169 dL_law_170 rfl (by decide) 3 0 rfl rfl (by omega) ?_
  refine hl_arg_iconst 176 3 C hX hbl hbA hL dL_law_171 dL_law_172 dL_law_173 dL_law_174 dL_law_175 rfl (by decide) 3 0 rfl rfl (by omega) ?_
  refine hl_arg_iconst 181 4 C hX hbl hbA hL dL_law_176 dL_law_177 dL_law_178 dL_law_179 dL_law_180 rfl (by decide) 3 0 rfl rfl (by omega) ?_
  refine hl_xI (t := some tt) (rest := []) 184 C hK hZ hA hcs dL_law_181 rfl kc_L_13 (x_house (xs (i + 1)) (xs (i + 2)) (xs (i + 3)) (xs (i + 4)) hI hR.hz) ⟨rfl, rfl⟩ ⟨Nat.le_of_ble_eq_true rfl, Nat.le_of_ble_eq_true rfl⟩ 0 2 rfl rfl rfl rfl rfl (Nat.le_of_ble_eq_true rfl) (fun r1 u1 hp1 => ?_)
  obtain ⟨rfl, hr1⟩ := hp1
  refine hd_aload_n 185 C dL_law_184 rfl 1 rfl rfl ?_
  refine hl_arg_iconst 190 1 C hX hbl hbA hL dL_law_185 dL_law_186 dL_law_187 dL_law_188 dL_law_189 rfl (by decide) 3 0 rfl rfl (by omega) ?_
  refine hl_arg_iconst 195 2 C hX hbl hbA hL dL_law_190 dL_law_191 dL_law_192 dL_law_193 dL_law_194 rfl (by decide) 3 0 rfl rfl (by omega) ?_
  refine hl_arg_iconst 200 3 C hX hbl hbA hL dL_law_195 dL_law_196 dL_law_197 dL_law_198 dL_law_199 rfl (by decide) 3 0 rfl rfl (by omega) ?_
  refine hl_arg_iconst 205 4 C hX hbl hbA hL dL_law_200 dL_law_201 dL_law_202 dL_law_203 dL_law_204 rfl (by decide) 3 0 rfl rfl (by omega) ?_
  refine hl_mI (t := none) (rest := [.int r1]) 208 C hK True.intro hA hcs dL_law_205 rfl kc_L_17 (m_house (xs (i + 1)) (xs (i + 2)) (xs (i + 3)) (xs (i + 4)) hI hR.hz') ⟨rfl, rfl⟩ ⟨Nat.le_of_ble_eq_true rfl, Nat.le_of_ble_eq_true rfl⟩ 0 3 rfl rfl rfl rfl rfl (Nat.le_of_ble_eq_true rfl) (fun r2 u2 hp2 => ?_)
  obtain ⟨⟨v3, v4, v5, g1, g2, g3, g4, rfl⟩, hr2⟩ := hp2
  exact hd_icmp_eq 211 1170 C dL_law_208 rfl (by decide) (fun _ => kk _ ⟨nn_house hR _ _ _ _, inv_house hI _ _ _ _ _ _, by rw [fz_house hR]; exact RZ_fz (RZ_M hR rfl rfl rfl (fun r i h1 h2 => by simp [hs, show ¬ r = 0 by omega, show ¬ r = 21 by omega, show ¬ r = 22 by omega, show ¬ r = 23 by omega, show ¬ r = 24 by omega])) _⟩) (fun hne => absurd (hr1.trans (Eq.trans (sp_house hR _ _ _ _) hr2.symm)) hne)
theorem lc_ofDoor (hC : lwC p s m args meth c A D cI cJ cD cS tt b0 L xs cells slots) (hi : i + 8 ≤ L) (hI : inv N) (hR : RZ Z E Z' E') (kk : ∀ u : sT × sT, good2 u → XW p l e room_1 s m args below meth c 4 cells slots A D Q (wP (wX cI cJ cD cS a) (wM cI a')) u 1170 (lvL i a a' b0) []) : XW p l e room_1 s m args below meth c 4 cells slots A D Q (wP (wX cI cJ cD cS a) (wM cI a')) ((N, Z, E, G, T), (N, Z', E', G', T')) 213 (lvL i a a' b0) [] := by
  obtain ⟨C, hK, hZ, hA, hX, hbl, hbA, hL, hcs⟩ := hC
  refine hd_aload_n 214 C dL_law_213 rfl 2 rfl rfl ?_
  refine hl_arg_iconst 219 1 C hX hbl hbA hL dL_law_214 dL_law_215 dL_law_216 dL_law_217 dL_law_218 rfl (by decide) 3 0 rfl rfl (by omega) ?_
  refine hl_arg_iconst 224 2 C hX hbl hbA hL dL_law_219 dL_law_220 dL_law_221 dL_law_222 dL_law_223 rfl (by decide) 3 0 rfl rfl (by omega) ?_
  refine hl_xI (t := some tt) (rest := []) 227 C hK hZ hA hcs dL_law_224 rfl kc_L_18 (x_ofDoor (xs (i + 1)) (xs (i + 2)) hI) ⟨rfl, rfl⟩ ⟨Nat.le_of_ble_eq_true rfl, Nat.le_of_ble_eq_true rfl⟩ 0 2 rfl rfl rfl rfl rfl (Nat.le_of_ble_eq_true rfl) (fun r1 u1 hp1 => ?_)
  obtain ⟨rfl, hr1⟩ := hp1
  refine hd_aload_n 228 C dL_law_227 rfl 1 rfl rfl ?_
  refine hl_arg_iconst 233 1 C hX hbl hbA hL dL_law_228 dL_law_229 dL_law_230 dL_law_231 dL_law_232 rfl (by decide) 3 0 rfl rfl (by omega) ?_
  refine hl_arg_iconst 238 2 C hX hbl hbA hL dL_law_233 dL_law_234 dL_law_235 dL_law_236 dL_law_237 rfl (by decide) 3 0 rfl rfl (by omega) ?_
  refine hl_mI (t := none) (rest := [.int r1]) 241 C hK True.intro hA hcs dL_law_238 rfl kc_L_22 (m_ofDoor (xs (i + 1)) (xs (i + 2)) hI) ⟨rfl, rfl⟩ ⟨Nat.le_of_ble_eq_true rfl, Nat.le_of_ble_eq_true rfl⟩ 0 3 rfl rfl rfl rfl rfl (Nat.le_of_ble_eq_true rfl) (fun r2 u2 hp2 => ?_)
  obtain ⟨rfl, hr2⟩ := hp2
  exact hd_icmp_eq 244 1170 C dL_law_241 rfl (by decide) (fun _ => kk _ ⟨rfl, hI, hR⟩) (fun hne => absurd (hr1.trans hr2.symm) hne)
theorem lc_leads (hC : lwC p s m args meth c A D cI cJ cD cS tt b0 L xs cells slots) (hi : i + 8 ≤ L) (hI : inv N) (hR : RZ Z E Z' E') (kk : ∀ u : sT × sT, good2 u → XW p l e room_1 s m args below meth c 4 cells slots A D Q (wP (wX cI cJ cD cS a) (wM cI a')) u 1170 (lvL i a a' b0) []) : XW p l e room_1 s m args below meth c 4 cells slots A D Q (wP (wX cI cJ cD cS a) (wM cI a')) ((N, Z, E, G, T), (N, Z', E', G', T')) 246 (lvL i a a' b0) [] := by
  obtain ⟨C, hK, hZ, hA, hX, hbl, hbA, hL, hcs⟩ := hC
  refine hd_aload_n 247 C dL_law_246 rfl 2 rfl rfl ?_
  refine hl_arg_iconst 252 1 C hX hbl hbA hL dL_law_247 dL_law_248 dL_law_249 dL_law_250 dL_law_251 rfl (by decide) 3 0 rfl rfl (by omega) ?_
  refine hl_arg_iconst 257 2 C hX hbl hbA hL dL_law_252 dL_law_253 dL_law_254 dL_law_255 dL_law_256 rfl (by decide) 3 0 rfl rfl (by omega) ?_
  refine hl_xI (t := some tt) (rest := []) 260 C hK hZ hA hcs dL_law_257 rfl kc_L_23 (x_leads (xs (i + 1)) (xs (i + 2)) hI) ⟨rfl, rfl⟩ ⟨Nat.le_of_ble_eq_true rfl, Nat.le_of_ble_eq_true rfl⟩ 0 2 rfl rfl rfl rfl rfl (Nat.le_of_ble_eq_true rfl) (fun r1 u1 hp1 => ?_)
  obtain ⟨rfl, hr1⟩ := hp1
  refine hd_aload_n 261 C dL_law_260 rfl 1 rfl rfl ?_
  refine hl_arg_iconst 266 1 C hX hbl hbA hL dL_law_261 dL_law_262 dL_law_263 dL_law_264 dL_law_265 rfl (by decide) 3 0 rfl rfl (by omega) ?_
  refine hl_arg_iconst 271 2 C hX hbl hbA hL dL_law_266 dL_law_267 dL_law_268 dL_law_269 dL_law_270 rfl (by decide) 3 0 rfl rfl (by omega) ?_
  refine hl_mI (t := none) (rest := [.int r1]) 274 C hK True.intro hA hcs dL_law_271 rfl kc_L_26 (m_leads (xs (i + 1)) (xs (i + 2)) hI) ⟨rfl, rfl⟩ ⟨Nat.le_of_ble_eq_true rfl, Nat.le_of_ble_eq_true rfl⟩ 0 3 rfl rfl rfl rfl rfl (Nat.le_of_ble_eq_true rfl) (fun r2 u2 hp2 => ?_)
  obtain ⟨rfl, hr2⟩ := hp2
  exact hd_icmp_eq 277 1170 C dL_law_274 rfl (by decide) (fun _ => kk _ ⟨rfl, hI, hR⟩) (fun hne => absurd (hr1.trans hr2.symm) hne)
theorem lc_step (hC : lwC p s m args meth c A D cI cJ cD cS tt b0 L xs cells slots) (hi : i + 8 ≤ L) (hI : inv N) (hR : RZ Z E Z' E') (kk : ∀ u : sT × sT, good2 u → XW p l e room_1 s m args below meth c 4 cells slots A D Q (wP (wX cI cJ cD cS a) (wM cI a')) u 1170 (lvL i a a' b0) []) : XW p l e room_1 s m args below meth c 4 cells slots A D Q (wP (wX cI cJ cD cS a) (wM cI a')) ((N, Z, E, G, T), (N, Z', E', G', T')) 279 (lvL i a a' b0) [] := by
  obtain ⟨C, hK, hZ, hA, hX, hbl, hbA, hL, hcs⟩ := hC
  refine hd_aload_n 280 C dL_law_279 rfl 2 rfl rfl ?_
  refine hl_arg_iconst 285 1 C hX hbl hbA hL dL_law_280 dL_law_281 dL_law_282 dL_law_283 dL_law_284 rfl (by decide) 3 0 rfl rfl (by omega) ?_
  refine hl_arg_iconst 290 2 C hX hbl hbA hL dL_law_285 dL_law_286 dL_law_287 dL_law_288 dL_law_289 rfl (by decide) 3 0 rfl rfl (by omega) ?_
  refine hl_xI (t := some tt) (rest := []) 293 C hK hZ hA hcs dL_law_290 rfl kc_L_27 (x_step (xs (i + 1)) (xs (i + 2)) hI) ⟨rfl, rfl⟩ ⟨Nat.le_of_ble_eq_true rfl, Nat.le_of_ble_eq_true rfl⟩ 0 2 rfl rfl rfl rfl rfl (Nat.le_of_ble_eq_true rfl) (fun r1 u1 hp1 => ?_)
  obtain ⟨rfl, hr1⟩ := hp1
  refine hd_aload_n 294 C dL_law_293 rfl 1 rfl rfl ?_
  refine hl_arg_iconst 299 1 C hX hbl hbA hL dL_law_294 dL_law_295 dL_law_296 dL_law_297 dL_law_298 rfl (by decide) 3 0 rfl rfl (by omega) ?_
  refine hl_arg_iconst 304 2 C hX hbl hbA hL dL_law_299 dL_law_300 dL_law_301 dL_law_302 dL_law_303 rfl (by decide) 3 0 rfl rfl (by omega) ?_
  refine hl_mI (t := none) (rest := [.int r1]) 307 C hK True.intro hA hcs dL_law_304 rfl kc_L_30 (m_step (xs (i + 1)) (xs (i + 2)) hI) ⟨rfl, rfl⟩ ⟨Nat.le_of_ble_eq_true rfl, Nat.le_of_ble_eq_true rfl⟩ 0 3 rfl rfl rfl rfl rfl (Nat.le_of_ble_eq_true rfl) (fun r2 u2 hp2 => ?_)
  obtain ⟨rfl, hr2⟩ := hp2
  exact hd_icmp_eq 310 1170 C dL_law_307 rfl (by decide) (fun _ => kk _ ⟨rfl, inv_nxStep hI _ _, hR⟩) (fun hne => absurd (hr1.trans hr2.symm) hne)
theorem lc_turn (hC : lwC p s m args meth c A D cI cJ cD cS tt b0 L xs cells slots) (hi : i + 8 ≤ L) (hI : inv N) (hR : RZ Z E Z' E') (kk : ∀ u : sT × sT, good2 u → XW p l e room_1 s m args below meth c 4 cells slots A D Q (wP (wX cI cJ cD cS a) (wM cI a')) u 1170 (lvL i a a' b0) []) : XW p l e room_1 s m args below meth c 4 cells slots A D Q (wP (wX cI cJ cD cS a) (wM cI a')) ((N, Z, E, G, T), (N, Z', E', G', T')) 312 (lvL i a a' b0) [] := by
  obtain ⟨C, hK, hZ, hA, hX, hbl, hbA, hL, hcs⟩ := hC
  refine hd_aload_n 313 C dL_law_312 rfl 2 rfl rfl ?_
  refine hl_arg_iconst 318 1 C hX hbl hbA hL dL_law_313 dL_law_314 dL_law_315 dL_law_316 dL_law_317 rfl (by decide) 3 0 rfl rfl (by omega) ?_
  refine hl_arg_iconst 323 2 C hX hbl hbA hL dL_law_318 dL_law_319 dL_law_320 dL_law_321 dL_law_322 rfl (by decide) 3 0 rfl rfl (by omega) ?_
  refine hl_xI (t := some tt) (rest := []) 326 C hK hZ hA hcs dL_law_323 rfl kc_L_31 (x_turn (xs (i + 1)) (xs (i + 2)) hI) ⟨rfl, rfl⟩ ⟨Nat.le_of_ble_eq_true rfl, Nat.le_of_ble_eq_true rfl⟩ 0 2 rfl rfl rfl rfl rfl (Nat.le_of_ble_eq_true rfl) (fun r1 u1 hp1 => ?_)
  obtain ⟨rfl, hr1⟩ := hp1
  refine hd_aload_n 327 C dL_law_326 rfl 1 rfl rfl ?_
  refine hl_arg_iconst 332 1 C hX hbl hbA hL dL_law_327 dL_law_328 dL_law_329 dL_law_330 dL_law_331 rfl (by decide) 3 0 rfl rfl (by omega) ?_
  refine hl_arg_iconst 337 2 C hX hbl hbA hL dL_law_332 dL_law_333 dL_law_334 dL_law_335 dL_law_336 rfl (by decide) 3 0 rfl rfl (by omega) ?_
  refine hl_mI (t := none) (rest := [.int r1]) 340 C hK True.intro hA hcs dL_law_337 rfl kc_L_34 (m_turn (xs (i + 1)) (xs (i + 2)) hI) ⟨rfl, rfl⟩ ⟨Nat.le_of_ble_eq_true rfl, Nat.le_of_ble_eq_true rfl⟩ 0 3 rfl rfl rfl rfl rfl (Nat.le_of_ble_eq_true rfl) (fun r2 u2 hp2 => ?_)
  obtain ⟨rfl, hr2⟩ := hp2
  exact hd_icmp_eq 343 1170 C dL_law_340 rfl (by decide) (fun _ => kk _ ⟨rfl, inv_nxTurn hI _ _, hR⟩) (fun hne => absurd (hr1.trans hr2.symm) hne)
theorem lc_walk (hC : lwC p s m args meth c A D cI cJ cD cS tt b0 L xs cells slots) (hi : i + 8 ≤ L) (hI : inv N) (hR : RZ Z E Z' E') (kk : ∀ u : sT × sT, good2 u → XW p l e room_1 s m args below meth c 4 cells slots A D Q (wP (wX cI cJ cD cS a) (wM cI a')) u 1170 (lvL i a a' b0) []) : XW p l e room_1 s m args below meth c 4 cells slots A D Q (wP (wX cI cJ cD cS a) (wM cI a')) ((N, Z, E, G, T), (N, Z', E', G', T')) 345 (lvL i a a' b0) [] := by
  obtain ⟨C, hK, hZ, hA, hX, hbl, hbA, hL, hcs⟩ := hC
  refine hd_aload_n 346 C dL_law_345 rfl 2 rfl rfl ?_
  refine hl_arg_iconst 351 1 C hX hbl hbA hL dL_law_346 dL_law_347 dL_law_348 dL_law_349 dL_law_350 rfl (by decide) 3 0 rfl rfl (by omega) ?_
  refine hl_arg_iconst 356 2 C hX hbl hbA hL dL_law_351 dL_law_352 dL_law_353 dL_law_354 dL_law_355 rfl (by decide) 3 0 rfl rfl (by omega) ?_
  refine hl_arg_iconst 361 3 C hX hbl hbA hL dL_law_356 dL_law_357 dL_law_358 dL_law_359 dL_law_360 rfl (by decide) 3 0 rfl rfl (by omega) ?_
  refine hl_arg_iconst 366 4 C hX hbl hbA hL dL_law_361 dL_law_362 dL_law_363 dL_law_364 dL_law_365 rfl (by decide) 3 0 rfl rfl (by omega) ?_
  refine hl_arg_iconst 371 5 C hX hbl hbA hL dL_law_366 dL_law_367 dL_law_368 dL_law_369 dL_law_370 rfl (by decide) 3 0 rfl rfl (by omega) ?_
  refine hl_arg_bipush 377 6 C hX hbl hbA hL dL_law_371 dL_law_372 dL_law_373 dL_law_375 dL_law_376 rfl (by decide) 3 0 rfl rfl (by omega) ?_
  refine hl_arg_bipush 383 7 C hX hbl hbA hL dL_law_377 dL_law_378 dL_law_379 dL_law_381 dL_law_382 rfl (by decide) 3 0 rfl rfl (by omega) ?_
  refine hl_xI (t := some tt) (rest := []) 386 C hK hZ hA hcs dL_law_383 rfl kc_L_35 (x_walk (xs (i + 1)) (xs (i + 2)) (xs (i + 3)) (xs (i + 4)) (xs (i + 5)) (xs (i + 6)) (xs (i + 7)) hI hR.hz) ⟨rfl, rfl⟩ ⟨Nat.le_of_ble_eq_true rfl, Nat.le_of_ble_eq_true rfl⟩ 0 2 rfl rfl rfl rfl rfl (Nat.le_of_ble_eq_true rfl) (fun r1 u1 hp1 => ?_)
  obtain ⟨rfl, hr1⟩ := hp1
  refine hd_aload_n 387 C dL_law_386 rfl 1 rfl rfl ?_
  refine hl_arg_iconst 392 1 C hX hbl hbA hL dL_law_387 dL_law_388 dL_law_389 dL_law_390 dL_law_391 rfl (by decide) 3 0 rfl rfl (by omega) ?_
  refine hl_arg_iconst 397 2 C hX hbl hbA hL dL_law_392 dL_law_393 dL_law_394 dL_law_395 dL_law_396 rfl (by decide) 3 0 rfl rfl (by omega) ?_
  refine hl_arg_iconst 402 3 C hX hbl hbA hL dL_law_397 dL_law_398 dL_law_399 dL_law_400 dL_law_401 rfl (by decide) 3 0 rfl rfl (by omega) ?_
  refine hl_arg_iconst 407 4 C hX hbl hbA hL dL_law_402 dL_law_403 dL_law_404 dL_law_405 dL_law_406 rfl (by decide) 3 0 rfl rfl (by omega) ?_
  refine hl_arg_iconst 412 5 C hX hbl hbA hL dL_law_407 dL_law_408 dL_law_409 dL_law_410 dL_law_411 rfl (by decide) 3 0 rfl rfl (by omega) ?_
  refine hl_arg_bipush 418 6 C hX hbl hbA hL dL_law_412 dL_law_413 dL_law_414 dL_law_416 dL_law_417 rfl (by decide) 3 0 rfl rfl (by omega) ?_
  refine hl_arg_bipush 424 7 C hX hbl hbA hL dL_law_418 dL_law_419 dL_law_420 dL_law_422 dL_law_423 rfl (by decide) 3 0 rfl rfl (by omega) ?_
  refine hl_mI (t := none) (rest := [.int r1]) 427 C hK True.intro hA hcs dL_law_424 rfl kc_L_39 (m_walk (xs (i + 1)) (xs (i + 2)) (xs (i + 3)) (xs (i + 4)) (xs (i + 5)) (xs (i + 6)) (xs (i + 7)) hI hR.hz' hR.hg) ⟨rfl, rfl⟩ ⟨Nat.le_of_ble_eq_true rfl, Nat.le_of_ble_eq_true rfl⟩ 0 3 rfl rfl rfl rfl rfl (Nat.le_of_ble_eq_true rfl) (fun r2 u2 hp2 => ?_)
  obtain ⟨⟨v6, v7, v8, v9, rfl⟩, hr2⟩ := hp2
  exact hd_icmp_eq 430 1170 C dL_law_427 rfl (by decide) (fun _ => kk _ ⟨rfl, hI, by rw [fz_walk hR]; exact RZ_fz (RZ_M hR rfl rfl rfl (fun r i h1 h2 => by simp [g4, uZ, show ¬ r = 0 by omega])) _⟩) (fun hne => absurd (hr1.trans (Eq.trans (sp_walk hR _ _ _ _ _ _ _) hr2.symm)) hne)
theorem lc_soonest (hC : lwC p s m args meth c A D cI cJ cD cS tt b0 L xs cells slots) (hi : i + 8 ≤ L) (hI : inv N) (hR : RZ Z E Z' E') (kk : ∀ u : sT × sT, good2 u → XW p l e room_1 s m args below meth c 4 cells slots A D Q (wP (wX cI cJ cD cS a) (wM cI a')) u 1170 (lvL i a a' b0) []) : XW p l e room_1 s m args below meth c 4 cells slots A D Q (wP (wX cI cJ cD cS a) (wM cI a')) ((N, Z, E, G, T), (N, Z', E', G', T')) 432 (lvL i a a' b0) [] := by
  obtain ⟨C, hK, hZ, hA, hX, hbl, hbA, hL, hcs⟩ := hC
  refine hd_aload_n 433 C dL_law_432 rfl 2 rfl rfl ?_
  refine hl_arg_iconst 438 1 C hX hbl hbA hL dL_law_433 dL_law_434 dL_law_435 dL_law_436 dL_law_437 rfl (by decide) 3 0 rfl rfl (by omega) ?_
  refine hl_arg_iconst 443 2 C hX hbl hbA hL dL_law_438 dL_law_439 dL_law_440 dL_law_441 dL_law_442 rfl (by decide) 3 0 rfl rfl (by omega) ?_
  refine hl_arg_iconst 448 3 C hX hbl hbA hL dL_law_443 dL_law_444 dL_law_445 dL_law_446 dL_law_447 rfl (by decide) 3 0 rfl rfl (by omega) ?_
  refine hl_arg_iconst 453 4 C hX hbl hbA hL dL_law_448 dL_law_449 dL_law_450 dL_law_451 dL_law_452 rfl (by decide) 3 0 rfl rfl (by omega) ?_
  refine hl_xI (t := some tt) (rest := []) 456 C hK hZ hA hcs dL_law_453 rfl kc_L_40 (x_soonest (xs (i + 1)) (xs (i + 2)) (xs (i + 3)) (xs (i + 4)) hI) ⟨rfl, rfl⟩ ⟨Nat.le_of_ble_eq_true rfl, Nat.le_of_ble_eq_true rfl⟩ 0 2 rfl rfl rfl rfl rfl (Nat.le_of_ble_eq_true rfl) (fun r1 u1 hp1 => ?_)
  obtain ⟨⟨g, rfl⟩, hr1⟩ := hp1
  refine hd_aload_n 457 C dL_law_456 rfl 1 rfl rfl ?_
  refine hl_arg_iconst 462 1 C hX hbl hbA hL dL_law_457 dL_law_458 dL_law_459 dL_law_460 dL_law_461 rfl (by decide) 3 0 rfl rfl (by omega) ?_
  refine hl_arg_iconst 467 2 C hX hbl hbA hL dL_law_462 dL_law_463 dL_law_464 dL_law_465 dL_law_466 rfl (by decide) 3 0 rfl rfl (by omega) ?_
  refine hl_arg_iconst 472 3 C hX hbl hbA hL dL_law_467 dL_law_468 dL_law_469 dL_law_470 dL_law_471 rfl (by decide) 3 0 rfl rfl (by omega) ?_
  refine hl_arg_iconst 477 4 C hX hbl hbA hL dL_law_472 dL_law_473 dL_law_474 dL_law_475 dL_law_476 rfl (by decide) 3 0 rfl rfl (by omega) ?_
  refine hl_mI (t := none) (rest := [.int r1]) 480 C hK True.intro hA hcs dL_law_477 rfl kc_L_43 (m_soonest (xs (i + 1)) (xs (i + 2)) (xs (i + 3)) (xs (i + 4)) hI hR.hg) ⟨rfl, rfl⟩ ⟨Nat.le_of_ble_eq_true rfl, Nat.le_of_ble_eq_true rfl⟩ 0 3 rfl rfl rfl rfl rfl (Nat.le_of_ble_eq_true rfl) (fun r2 u2 hp2 => ?_)
  obtain ⟨rfl, hr2⟩ := hp2
  exact hd_icmp_eq 483 1170 C dL_law_480 rfl (by decide) (fun _ => kk _ ⟨rfl, hI, (RZ_X hR rfl rfl (fun r i h1 h2 => by simp [rZ, show ¬ r = 28 by omega]))⟩) (fun hne => absurd (hr1.trans hr2.symm) hne)
theorem lc_errands (hC : lwC p s m args meth c A D cI cJ cD cS tt b0 L xs cells slots) (hi : i + 8 ≤ L) (hI : inv N) (hR : RZ Z E Z' E') (kk : ∀ u : sT × sT, good2 u → XW p l e room_1 s m args below meth c 4 cells slots A D Q (wP (wX cI cJ cD cS a) (wM cI a')) u 1170 (lvL i a a' b0) []) : XW p l e room_1 s m args below meth c 4 cells slots A D Q (wP (wX cI cJ cD cS a) (wM cI a')) ((N, Z, E, G, T), (N, Z', E', G', T')) 485 (lvL i a a' b0) [] := by
  obtain ⟨C, hK, hZ, hA, hX, hbl, hbA, hL, hcs⟩ := hC
  refine hd_aload_n 486 C dL_law_485 rfl 2 rfl rfl ?_
  refine hl_arg_iconst 491 1 C hX hbl hbA hL dL_law_486 dL_law_487 dL_law_488 dL_law_489 dL_law_490 rfl (by decide) 3 0 rfl rfl (by omega) ?_
  refine hl_arg_iconst 496 2 C hX hbl hbA hL dL_law_491 dL_law_492 dL_law_493 dL_law_494 dL_law_495 rfl (by decide) 3 0 rfl rfl (by omega) ?_
  refine hl_arg_iconst 501 3 C hX hbl hbA hL dL_law_496 dL_law_497 dL_law_498 dL_law_499 dL_law_500 rfl (by decide) 3 0 rfl rfl (by omega) ?_
  refine hl_xI (t := some tt) (rest := []) 504 C hK hZ hA hcs dL_law_501 rfl kc_L_44 (x_errands (xs (i + 1)) (xs (i + 2)) (xs (i + 3)) hI) ⟨rfl, rfl⟩ ⟨Nat.le_of_ble_eq_true rfl, Nat.le_of_ble_eq_true rfl⟩ 0 2 rfl rfl rfl rfl rfl (Nat.le_of_ble_eq_true rfl) (fun r1 u1 hp1 => ?_)
  obtain ⟨⟨g0, g1, rfl⟩, hr1⟩ := hp1
  refine hd_aload_n 505 C dL_law_504 rfl 1 rfl rfl ?_
  refine hl_arg_iconst 510 1 C hX hbl hbA hL dL_law_505 dL_law_506 dL_law_507 dL_law_508 dL_law_509 rfl (by decide) 3 0 rfl rfl (by omega) ?_
  refine hl_arg_iconst 515 2 C hX hbl hbA hL dL_law_510 dL_law_511 dL_law_512 dL_law_513 dL_law_514 rfl (by decide) 3 0 rfl rfl (by omega) ?_
  refine hl_arg_iconst 520 3 C hX hbl hbA hL dL_law_515 dL_law_516 dL_law_517 dL_law_518 dL_law_519 rfl (by decide) 3 0 rfl rfl (by omega) ?_
  refine hl_mI (t := none) (rest := [.int r1]) 523 C hK True.intro hA hcs dL_law_520 rfl kc_L_48 (m_errands (xs (i + 1)) (xs (i + 2)) (xs (i + 3)) hI hR.hg) ⟨rfl, rfl⟩ ⟨Nat.le_of_ble_eq_true rfl, Nat.le_of_ble_eq_true rfl⟩ 0 3 rfl rfl rfl rfl rfl (Nat.le_of_ble_eq_true rfl) (fun r2 u2 hp2 => ?_)
  obtain ⟨⟨f2, g2, rfl⟩, hr2⟩ := hp2
  exact hd_icmp_eq 526 1170 C dL_law_523 rfl (by decide) (fun _ => kk _ ⟨rfl, hI, RZ_M hR rfl rfl rfl (fun r i h1 h2 => by simp [rZ, show ¬ r = 25 by omega, show ¬ r = 26 by omega])⟩) (fun hne => absurd (erP_one hr1 hr2) hne)
theorem lc_meet (hC : lwC p s m args meth c A D cI cJ cD cS tt b0 L xs cells slots) (hi : i + 8 ≤ L) (hI : inv N) (hR : RZ Z E Z' E') (kk : ∀ u : sT × sT, good2 u → XW p l e room_1 s m args below meth c 4 cells slots A D Q (wP (wX cI cJ cD cS a) (wM cI a')) u 1170 (lvL i a a' b0) []) : XW p l e room_1 s m args below meth c 4 cells slots A D Q (wP (wX cI cJ cD cS a) (wM cI a')) ((N, Z, E, G, T), (N, Z', E', G', T')) 528 (lvL i a a' b0) [] := by
  obtain ⟨C, hK, hZ, hA, hX, hbl, hbA, hL, hcs⟩ := hC
  refine hd_aload_n 529 C dL_law_528 rfl 2 rfl rfl ?_
  refine hl_arg_iconst 534 1 C hX hbl hbA hL dL_law_529 dL_law_530 dL_law_531 dL_law_532 dL_law_533 rfl (by decide) 3 0 rfl rfl (by omega) ?_
  refine hl_arg_iconst 539 2 C hX hbl hbA hL dL_law_534 dL_law_535 dL_law_536 dL_law_537 dL_law_538 rfl (by decide) 3 0 rfl rfl (by omega) ?_
  refine hl_arg_iconst 544 3 C hX hbl hbA hL dL_law_539 dL_law_540 dL_law_541 dL_law_542 dL_law_543 rfl (by decide) 3 0 rfl rfl (by omega) ?_
  refine hl_xI (t := some tt) (rest := []) 547 C hK hZ hA hcs dL_law_544 rfl kc_L_49 (x_meet (xs (i + 1)) (xs (i + 2)) (xs (i + 3)) hI) ⟨rfl, rfl⟩ ⟨Nat.le_of_ble_eq_true rfl, Nat.le_of_ble_eq_true rfl⟩ 0 2 rfl rfl rfl rfl rfl (Nat.le_of_ble_eq_true rfl) (fun r1 u1 hp1 => ?_)
  obtain ⟨rfl, hr1⟩ := hp1
  refine hd_aload_n 548 C dL_law_547 rfl 1 rfl rfl ?_
  refine hl_arg_iconst 553 1 C hX hbl hbA hL dL_law_548 dL_law_549 dL_law_550 dL_law_551 dL_law_552 rfl (by decide) 3 0 rfl rfl (by omega) ?_
  refine hl_arg_iconst 558 2 C hX hbl hbA hL dL_law_553 dL_law_554 dL_law_555 dL_law_556 dL_law_557 rfl (by decide) 3 0 rfl rfl (by omega) ?_
  refine hl_arg_iconst 563 3 C hX hbl hbA hL dL_law_558 dL_law_559 dL_law_560 dL_law_561 dL_law_562 rfl (by decide) 3 0 rfl rfl (by omega) ?_
  refine hl_mI (t := none) (rest := [.int r1]) 566 C hK True.intro hA hcs dL_law_563 rfl kc_L_52 (m_meet (xs (i + 1)) (xs (i + 2)) (xs (i + 3)) hI hR.hg) ⟨rfl, rfl⟩ ⟨Nat.le_of_ble_eq_true rfl, Nat.le_of_ble_eq_true rfl⟩ 0 3 rfl rfl rfl rfl rfl (Nat.le_of_ble_eq_true rfl) (fun r2 u2 hp2 => ?_)
  obtain ⟨rfl, hr2⟩ := hp2
  exact hd_icmp_eq 569 1170 C dL_law_566 rfl (by decide) (fun _ => kk _ ⟨rfl, hI, hR⟩) (fun hne => absurd (hr1.trans hr2.symm) hne)
theorem lc_cut (hC : lwC p s m args meth c A D cI cJ cD cS tt b0 L xs cells slots) (hi : i + 8 ≤ L) (hI : inv N) (hR : RZ Z E Z' E') (kk : ∀ u : sT × sT, good2 u → XW p l e room_1 s m args below meth c 4 cells slots A D Q (wP (wX cI cJ cD cS a) (wM cI a')) u 1170 (lvL i a a' b0) []) : XW p l e room_1 s m args below meth c 4 cells slots A D Q (wP (wX cI cJ cD cS a) (wM cI a')) ((N, Z, E, G, T), (N, Z', E', G', T')) 571 (lvL i a a' b0) [] := by
  obtain ⟨C, hK, hZ, hA, hX, hbl, hbA, hL, hcs⟩ := hC
  refine hd_aload_n 572 C dL_law_571 rfl 2 rfl rfl ?_
  refine hl_arg_iconst 577 1 C hX hbl hbA hL dL_law_572 dL_law_573 dL_law_574 dL_law_575 dL_law_576 rfl (by decide) 3 0 rfl rfl (by omega) ?_
  refine hl_arg_iconst 582 2 C hX hbl hbA hL dL_law_577 dL_law_578 dL_law_579 dL_law_580 dL_law_581 rfl (by decide) 3 0 rfl rfl (by omega) ?_
  refine hl_arg_iconst 587 3 C hX hbl hbA hL dL_law_582 dL_law_583 dL_law_584 dL_law_585 dL_law_586 rfl (by decide) 3 0 rfl rfl (by omega) ?_
  refine hl_xI (t := some tt) (rest := []) 590 C hK hZ hA hcs dL_law_587 rfl kc_L_53 (x_cut (xs (i + 1)) (xs (i + 2)) (xs (i + 3)) hI) ⟨rfl, rfl⟩ ⟨Nat.le_of_ble_eq_true rfl, Nat.le_of_ble_eq_true rfl⟩ 0 2 rfl rfl rfl rfl rfl (Nat.le_of_ble_eq_true rfl) (fun r1 u1 hp1 => ?_)
  obtain ⟨rfl, hr1⟩ := hp1
  refine hd_aload_n 591 C dL_law_590 rfl 1 rfl rfl ?_
  refine hl_arg_iconst 596 1 C hX hbl hbA hL dL_law_591 dL_law_592 dL_law_593 dL_law_594 dL_law_595 rfl (by decide) 3 0 rfl rfl (by omega) ?_
  refine hl_arg_iconst 601 2 C hX hbl hbA hL dL_law_596 dL_law_597 dL_law_598 dL_law_599 dL_law_600 rfl (by decide) 3 0 rfl rfl (by omega) ?_
  refine hl_arg_iconst 606 3 C hX hbl hbA hL dL_law_601 dL_law_602 dL_law_603 dL_law_604 dL_law_605 rfl (by decide) 3 0 rfl rfl (by omega) ?_
  refine hl_mI (t := none) (rest := [.int r1]) 609 C hK True.intro hA hcs dL_law_606 rfl kc_L_56 (m_cut (xs (i + 1)) (xs (i + 2)) (xs (i + 3)) hI hR.hg) ⟨rfl, rfl⟩ ⟨Nat.le_of_ble_eq_true rfl, Nat.le_of_ble_eq_true rfl⟩ 0 3 rfl rfl rfl rfl rfl (Nat.le_of_ble_eq_true rfl) (fun r2 u2 hp2 => ?_)
  obtain ⟨rfl, hr2⟩ := hp2
  exact hd_icmp_eq 612 1170 C dL_law_609 rfl (by decide) (fun _ => kk _ ⟨rfl, hI, hR⟩) (fun hne => absurd (hr1.trans hr2.symm) hne)
theorem lc_reach (hC : lwC p s m args meth c A D cI cJ cD cS tt b0 L xs cells slots) (hi : i + 8 ≤ L) (hI : inv N) (hR : RZ Z E Z' E') (kk : ∀ u : sT × sT, good2 u → XW p l e room_1 s m args below meth c 4 cells slots A D Q (wP (wX cI cJ cD cS a) (wM cI a')) u 1170 (lvL i a a' b0) []) : XW p l e room_1 s m args below meth c 4 cells slots A D Q (wP (wX cI cJ cD cS a) (wM cI a')) ((N, Z, E, G, T), (N, Z', E', G', T')) 614 (lvL i a a' b0) [] := by
  obtain ⟨C, hK, hZ, hA, hX, hbl, hbA, hL, hcs⟩ := hC
  refine hd_aload_n 615 C dL_law_614 rfl 2 rfl rfl ?_
  refine hl_arg_iconst 620 1 C hX hbl hbA hL dL_law_615 dL_law_616 dL_law_617 dL_law_618 dL_law_619 rfl (by decide) 3 0 rfl rfl (by omega) ?_
  refine hl_xI (t := some tt) (rest := []) 623 C hK hZ hA hcs dL_law_620 rfl kc_L_57 (x_reach (xs (i + 1)) hI) ⟨rfl, rfl⟩ ⟨Nat.le_of_ble_eq_true rfl, Nat.le_of_ble_eq_true rfl⟩ 0 2 rfl rfl rfl rfl rfl (Nat.le_of_ble_eq_true rfl) (fun r1 u1 hp1 => ?_)
  obtain ⟨rfl, hr1⟩ := hp1
  refine hd_aload_n 624 C dL_law_623 rfl 1 rfl rfl ?_
  refine hl_arg_iconst 629 1 C hX hbl hbA hL dL_law_624 dL_law_625 dL_law_626 dL_law_627 dL_law_628 rfl (by decide) 3 0 rfl rfl (by omega) ?_
  refine hl_mI (t := none) (rest := [.int r1]) 632 C hK True.intro hA hcs dL_law_629 rfl kc_L_61 (m_reach (xs (i + 1)) hI hR.hg) ⟨rfl, rfl⟩ ⟨Nat.le_of_ble_eq_true rfl, Nat.le_of_ble_eq_true rfl⟩ 0 3 rfl rfl rfl rfl rfl (Nat.le_of_ble_eq_true rfl) (fun r2 u2 hp2 => ?_)
  obtain ⟨rfl, hr2⟩ := hp2
  exact hd_icmp_eq 635 1170 C dL_law_632 rfl (by decide) (fun _ => kk _ ⟨rfl, hI, hR⟩) (fun hne => absurd (hr1.trans hr2.symm) hne)
theorem lc_reading (hC : lwC p s m args meth c A D cI cJ cD cS tt b0 L xs cells slots) (hi : i + 8 ≤ L) (hI : inv N) (hR : RZ Z E Z' E') (kk : ∀ u : sT × sT, good2 u → XW p l e room_1 s m args below meth c 4 cells slots A D Q (wP (wX cI cJ cD cS a) (wM cI a')) u 1170 (lvL i a a' b0) []) : XW p l e room_1 s m args below meth c 4 cells slots A D Q (wP (wX cI cJ cD cS a) (wM cI a')) ((N, Z, E, G, T), (N, Z', E', G', T')) 637 (lvL i a a' b0) [] := by
  obtain ⟨C, hK, hZ, hA, hX, hbl, hbA, hL, hcs⟩ := hC
  refine hd_aload_n 638 C dL_law_637 rfl 2 rfl rfl ?_
  refine hl_arg_iconst 643 1 C hX hbl hbA hL dL_law_638 dL_law_639 dL_law_640 dL_law_641 dL_law_642 rfl (by decide) 3 0 rfl rfl (by omega) ?_
  refine hl_arg_iconst 648 2 C hX hbl hbA hL dL_law_643 dL_law_644 dL_law_645 dL_law_646 dL_law_647 rfl (by decide) 3 0 rfl rfl (by omega) ?_
  refine hl_arg_iconst 653 3 C hX hbl hbA hL dL_law_648 dL_law_649 dL_law_650 dL_law_651 dL_law_652 rfl (by decide) 3 0 rfl rfl (by omega) ?_
  refine hl_xI (t := some tt) (rest := []) 656 C hK hZ hA hcs dL_law_653 rfl kc_L_62 (x_reading (xs (i + 1)) (xs (i + 2)) (xs (i + 3)) hI) ⟨rfl, rfl⟩ ⟨Nat.le_of_ble_eq_true rfl, Nat.le_of_ble_eq_true rfl⟩ 0 2 rfl rfl rfl rfl rfl (Nat.le_of_ble_eq_true rfl) (fun r1 u1 hp1 => ?_)
  obtain ⟨rfl, hr1⟩ := hp1
  refine hd_aload_n 657 C dL_law_656 rfl 1 rfl rfl ?_
  refine hl_arg_iconst 662 1 C hX hbl hbA hL dL_law_657 dL_law_658 dL_law_659 dL_law_660 dL_law_661 rfl (by decide) 3 0 rfl rfl (by omega) ?_
  refine hl_arg_iconst 667 2 C hX hbl hbA hL dL_law_662 dL_law_663 dL_law_664 dL_law_665 dL_law_666 rfl (by decide) 3 0 rfl rfl (by omega) ?_
  refine hl_arg_iconst 672 3 C hX hbl hbA hL dL_law_667 dL_law_668 dL_law_669 dL_law_670 dL_law_671 rfl (by decide) 3 0 rfl rfl (by omega) ?_
  refine hl_mI (t := none) (rest := [.int r1]) 675 C hK True.intro hA hcs dL_law_672 rfl kc_L_65 (m_reading (xs (i + 1)) (xs (i + 2)) (xs (i + 3)) hI) ⟨rfl, rfl⟩ ⟨Nat.le_of_ble_eq_true rfl, Nat.le_of_ble_eq_true rfl⟩ 0 3 rfl rfl rfl rfl rfl (Nat.le_of_ble_eq_true rfl) (fun r2 u2 hp2 => ?_)
  obtain ⟨rfl, hr2⟩ := hp2
  exact hd_icmp_eq 678 1170 C dL_law_675 rfl (by decide) (fun _ => kk _ ⟨rfl, inv_nxReading hI _ _ _, RZ_reading hR _ _ _⟩) (fun hne => absurd (hr1.trans hr2.symm) hne)
theorem lc_back (hC : lwC p s m args meth c A D cI cJ cD cS tt b0 L xs cells slots) (hi : i + 8 ≤ L) (hI : inv N) (hR : RZ Z E Z' E') (kk : ∀ u : sT × sT, good2 u → XW p l e room_1 s m args below meth c 4 cells slots A D Q (wP (wX cI cJ cD cS a) (wM cI a')) u 1170 (lvL i a a' b0) []) : XW p l e room_1 s m args below meth c 4 cells slots A D Q (wP (wX cI cJ cD cS a) (wM cI a')) ((N, Z, E, G, T), (N, Z', E', G', T')) 680 (lvL i a a' b0) [] := by
  obtain ⟨C, hK, hZ, hA, hX, hbl, hbA, hL, hcs⟩ := hC
  refine hd_aload_n 681 C dL_law_680 rfl 2 rfl rfl ?_
  refine hl_arg_iconst 686 1 C hX hbl hbA hL dL_law_681 dL_law_682 dL_law_683 dL_law_684 dL_law_685 rfl (by decide) 3 0 rfl rfl (by omega) ?_
  refine hl_xI (t := some tt) (rest := []) 689 C hK hZ hA hcs dL_law_686 rfl kc_L_66 (x_back (xs (i + 1)) hI) ⟨rfl, rfl⟩ ⟨Nat.le_of_ble_eq_true rfl, Nat.le_of_ble_eq_true rfl⟩ 0 2 rfl rfl rfl rfl rfl (Nat.le_of_ble_eq_true rfl) (fun r1 u1 hp1 => ?_)
  obtain ⟨rfl, hr1⟩ := hp1
  refine hd_aload_n 690 C dL_law_689 rfl 1 rfl rfl ?_
  refine hl_arg_iconst 695 1 C hX hbl hbA hL dL_law_690 dL_law_691 dL_law_692 dL_law_693 dL_law_694 rfl (by decide) 3 0 rfl rfl (by omega) ?_
  refine hl_mI (t := none) (rest := [.int r1]) 698 C hK True.intro hA hcs dL_law_695 rfl kc_L_69 (m_back (xs (i + 1)) hI) ⟨rfl, rfl⟩ ⟨Nat.le_of_ble_eq_true rfl, Nat.le_of_ble_eq_true rfl⟩ 0 3 rfl rfl rfl rfl rfl (Nat.le_of_ble_eq_true rfl) (fun r2 u2 hp2 => ?_)
  obtain ⟨rfl, hr2⟩ := hp2
  exact hd_icmp_eq 701 1170 C dL_law_698 rfl (by decide) (fun _ => kk _ ⟨rfl, inv_nxBack hI _, hR⟩) (fun hne => absurd (hr1.trans hr2.symm) hne)
theorem lc_steps (hC : lwC p s m args meth c A D cI cJ cD cS tt b0 L xs cells slots) (hi : i + 8 ≤ L) (hI : inv N) (hR : RZ Z E Z' E') (kk : ∀ u : sT × sT, good2 u → XW p l e room_1 s m args below meth c 4 cells slots A D Q (wP (wX cI cJ cD cS a) (wM cI a')) u 1170 (lvL i a a' b0) []) : XW p l e room_1 s m args below meth c 4 cells slots A D Q (wP (wX cI cJ cD cS a) (wM cI a')) ((N, Z, E, G, T), (N, Z', E', G', T')) 703 (lvL i a a' b0) [] := by
  obtain ⟨C, hK, hZ, hA, hX, hbl, hbA, hL, hcs⟩ := hC
  refine hd_aload_n 704 C dL_law_703 rfl 2 rfl rfl ?_
  refine hl_arg_iconst 709 1 C hX hbl hbA hL dL_law_704 dL_law_705 dL_law_706 dL_law_707 dL_law_708 rfl (by decide) 3 0 rfl rfl (by omega) ?_
  refine hl_xI (t := some tt) (rest := []) 712 C hK hZ hA hcs dL_law_709 rfl kc_L_70 (x_steps (xs (i + 1)) hI) ⟨rfl, rfl⟩ ⟨Nat.le_of_ble_eq_true rfl, Nat.le_of_ble_eq_true rfl⟩ 0 2 rfl rfl rfl rfl rfl (Nat.le_of_ble_eq_true rfl) (fun r1 u1 hp1 => ?_)
  obtain ⟨⟨T2, rfl⟩, hr1⟩ := hp1
  refine hd_aload_n 713 C dL_law_712 rfl 1 rfl rfl ?_
  refine hl_arg_iconst 718 1 C hX hbl hbA hL dL_law_713 dL_law_714 dL_law_715 dL_law_716 dL_law_717 rfl (by decide) 3 0 rfl rfl (by omega) ?_
  refine hl_mI (t := none) (rest := [.int r1]) 721 C hK True.intro hA hcs dL_law_718 rfl kc_L_73 (m_steps (xs (i + 1)) hI) ⟨rfl, rfl⟩ ⟨Nat.le_of_ble_eq_true rfl, Nat.le_of_ble_eq_true rfl⟩ 0 3 rfl rfl rfl rfl rfl (Nat.le_of_ble_eq_true rfl) (fun r2 u2 hp2 => ?_)
  obtain ⟨rfl, hr2⟩ := hp2
  exact hd_icmp_eq 724 1170 C dL_law_721 rfl (by decide) (fun _ => kk _ ⟨rfl, hI, hR⟩) (fun hne => absurd (hr1.trans (Eq.trans (by rw [show Z 1 = Z' 1 from funext hR.2.2.1]) hr2.symm)) hne)
theorem lc_targets (hC : lwC p s m args meth c A D cI cJ cD cS tt b0 L xs cells slots) (hi : i + 8 ≤ L) (hI : inv N) (hR : RZ Z E Z' E') (kk : ∀ u : sT × sT, good2 u → XW p l e room_1 s m args below meth c 4 cells slots A D Q (wP (wX cI cJ cD cS a) (wM cI a')) u 1170 (lvL i a a' b0) []) : XW p l e room_1 s m args below meth c 4 cells slots A D Q (wP (wX cI cJ cD cS a) (wM cI a')) ((N, Z, E, G, T), (N, Z', E', G', T')) 726 (lvL i a a' b0) [] := by
  obtain ⟨C, hK, hZ, hA, hX, hbl, hbA, hL, hcs⟩ := hC
  refine hd_aload_n 727 C dL_law_726 rfl 2 rfl rfl ?_
  refine hl_arg_iconst 732 1 C hX hbl hbA hL dL_law_727 dL_law_728 dL_law_729 dL_law_730 dL_law_731 rfl (by decide) 3 0 rfl rfl (by omega) ?_
  refine hl_xI (t := some tt) (rest := []) 735 C hK hZ hA hcs dL_law_732 rfl kc_L_74 (x_targets (xs (i + 1)) hI) ⟨rfl, rfl⟩ ⟨Nat.le_of_ble_eq_true rfl, Nat.le_of_ble_eq_true rfl⟩ 0 2 rfl rfl rfl rfl rfl (Nat.le_of_ble_eq_true rfl) (fun r1 u1 hp1 => ?_)
  obtain ⟨⟨T2, rfl⟩, hr1⟩ := hp1
  refine hd_aload_n 736 C dL_law_735 rfl 1 rfl rfl ?_
  refine hl_arg_iconst 741 1 C hX hbl hbA hL dL_law_736 dL_law_737 dL_law_738 dL_law_739 dL_law_740 rfl (by decide) 3 0 rfl rfl (by omega) ?_
  refine hl_mI (t := none) (rest := [.int r1]) 744 C hK True.intro hA hcs dL_law_741 rfl kc_L_77 (m_targets (xs (i + 1)) hI) ⟨rfl, rfl⟩ ⟨Nat.le_of_ble_eq_true rfl, Nat.le_of_ble_eq_true rfl⟩ 0 3 rfl rfl rfl rfl rfl (Nat.le_of_ble_eq_true rfl) (fun r2 u2 hp2 => ?_)
  obtain ⟨rfl, hr2⟩ := hp2
  exact hd_icmp_eq 747 1170 C dL_law_744 rfl (by decide) (fun _ => kk _ ⟨rfl, hI, hR⟩) (fun hne => absurd (hr1.trans (Eq.trans (by rw [show Z 1 = Z' 1 from funext hR.2.2.1]) hr2.symm)) hne)
theorem lc_kinds (hC : lwC p s m args meth c A D cI cJ cD cS tt b0 L xs cells slots) (hi : i + 8 ≤ L) (hI : inv N) (hR : RZ Z E Z' E') (kk : ∀ u : sT × sT, good2 u → XW p l e room_1 s m args below meth c 4 cells slots A D Q (wP (wX cI cJ cD cS a) (wM cI a')) u 1170 (lvL i a a' b0) []) : XW p l e room_1 s m args below meth c 4 cells slots A D Q (wP (wX cI cJ cD cS a) (wM cI a')) ((N, Z, E, G, T), (N, Z', E', G', T')) 749 (lvL i a a' b0) [] := by
  obtain ⟨C, hK, hZ, hA, hX, hbl, hbA, hL, hcs⟩ := hC
  refine hd_aload_n 750 C dL_law_749 rfl 2 rfl rfl ?_
  refine hl_arg_iconst 755 1 C hX hbl hbA hL dL_law_750 dL_law_751 dL_law_752 dL_law_753 dL_law_754 rfl (by decide) 3 0 rfl rfl (by omega) ?_
  refine hl_xI (t := some tt) (rest := []) 758 C hK hZ hA hcs dL_law_755 rfl kc_L_78 (x_kinds (xs (i + 1)) hI) ⟨rfl, rfl⟩ ⟨Nat.le_of_ble_eq_true rfl, Nat.le_of_ble_eq_true rfl⟩ 0 2 rfl rfl rfl rfl rfl (Nat.le_of_ble_eq_true rfl) (fun r1 u1 hp1 => ?_)
  obtain ⟨⟨T2, rfl⟩, hr1⟩ := hp1
  refine hd_aload_n 759 C dL_law_758 rfl 1 rfl rfl ?_
  refine hl_arg_iconst 764 1 C hX hbl hbA hL dL_law_759 dL_law_760 dL_law_761 dL_law_762 dL_law_763 rfl (by decide) 3 0 rfl rfl (by omega) ?_
  refine hl_mI (t := none) (rest := [.int r1]) 767 C hK True.intro hA hcs dL_law_764 rfl kc_L_81 (m_kinds (xs (i + 1)) hI) ⟨rfl, rfl⟩ ⟨Nat.le_of_ble_eq_true rfl, Nat.le_of_ble_eq_true rfl⟩ 0 3 rfl rfl rfl rfl rfl (Nat.le_of_ble_eq_true rfl) (fun r2 u2 hp2 => ?_)
  obtain ⟨rfl, hr2⟩ := hp2
  exact hd_icmp_eq 770 1170 C dL_law_767 rfl (by decide) (fun _ => kk _ ⟨rfl, hI, hR⟩) (fun hne => absurd (hr1.trans (Eq.trans (by rw [show Z 1 = Z' 1 from funext hR.2.2.1]) hr2.symm)) hne)
theorem lc_odds (hC : lwC p s m args meth c A D cI cJ cD cS tt b0 L xs cells slots) (hi : i + 8 ≤ L) (hI : inv N) (hR : RZ Z E Z' E') (kk : ∀ u : sT × sT, good2 u → XW p l e room_1 s m args below meth c 4 cells slots A D Q (wP (wX cI cJ cD cS a) (wM cI a')) u 1170 (lvL i a a' b0) []) : XW p l e room_1 s m args below meth c 4 cells slots A D Q (wP (wX cI cJ cD cS a) (wM cI a')) ((N, Z, E, G, T), (N, Z', E', G', T')) 772 (lvL i a a' b0) [] := by
  obtain ⟨C, hK, hZ, hA, hX, hbl, hbA, hL, hcs⟩ := hC
  refine hd_aload_n 773 C dL_law_772 rfl 2 rfl rfl ?_
  refine hl_arg_iconst 778 1 C hX hbl hbA hL dL_law_773 dL_law_774 dL_law_775 dL_law_776 dL_law_777 rfl (by decide) 3 0 rfl rfl (by omega) ?_
  refine hl_arg_iconst 783 2 C hX hbl hbA hL dL_law_778 dL_law_779 dL_law_780 dL_law_781 dL_law_782 rfl (by decide) 3 0 rfl rfl (by omega) ?_
  refine hl_arg_iconst 788 3 C hX hbl hbA hL dL_law_783 dL_law_784 dL_law_785 dL_law_786 dL_law_787 rfl (by decide) 3 0 rfl rfl (by omega) ?_
  refine hl_arg_iconst 793 4 C hX hbl hbA hL dL_law_788 dL_law_789 dL_law_790 dL_law_791 dL_law_792 rfl (by decide) 3 0 rfl rfl (by omega) ?_
  refine hl_xL (t := some tt) (rest := []) 796 C hK hZ hA hcs dL_law_793 rfl kc_L_82 (x_odds (xs (i + 1)) (xs (i + 2)) (xs (i + 3)) (xs (i + 4)) hI) ⟨rfl, rfl⟩ ⟨Nat.le_of_ble_eq_true rfl, Nat.le_of_ble_eq_true rfl⟩ 0 2 rfl rfl rfl rfl rfl (Nat.le_of_ble_eq_true rfl) (fun r1 u1 hp1 => ?_)
  obtain ⟨rfl, hr1⟩ := hp1
  refine hd_aload_n 797 C dL_law_796 rfl 1 rfl rfl ?_
  refine hl_arg_iconst 802 1 C hX hbl hbA hL dL_law_797 dL_law_798 dL_law_799 dL_law_800 dL_law_801 rfl (by decide) 3 0 rfl rfl (by omega) ?_
  refine hl_arg_iconst 807 2 C hX hbl hbA hL dL_law_802 dL_law_803 dL_law_804 dL_law_805 dL_law_806 rfl (by decide) 3 0 rfl rfl (by omega) ?_
  refine hl_arg_iconst 812 3 C hX hbl hbA hL dL_law_807 dL_law_808 dL_law_809 dL_law_810 dL_law_811 rfl (by decide) 3 0 rfl rfl (by omega) ?_
  refine hl_arg_iconst 817 4 C hX hbl hbA hL dL_law_812 dL_law_813 dL_law_814 dL_law_815 dL_law_816 rfl (by decide) 3 0 rfl rfl (by omega) ?_
  refine hl_mL (t := none) (rest := [.long r1]) 820 C hK True.intro hA hcs dL_law_817 rfl kc_L_86 (m_odds (xs (i + 1)) (xs (i + 2)) (xs (i + 3)) (xs (i + 4)) hI hR.hg) ⟨rfl, rfl⟩ ⟨Nat.le_of_ble_eq_true rfl, Nat.le_of_ble_eq_true rfl⟩ 0 3 rfl rfl rfl rfl rfl (Nat.le_of_ble_eq_true rfl) (fun r2 u2 hp2 => ?_)
  obtain ⟨rfl, hr2⟩ := hp2
  exact hd_lc_eq 824 1170 C dL_law_820 dL_law_821 rfl (by decide) (fun _ => kk _ ⟨rfl, hI, hR⟩) (fun hne => absurd (hr1.trans hr2.symm) hne)
theorem lc_sheet (hC : lwC p s m args meth c A D cI cJ cD cS tt b0 L xs cells slots) (hi : i + 8 ≤ L) (hI : inv N) (hR : RZ Z E Z' E') (kk : ∀ u : sT × sT, good2 u → XW p l e room_1 s m args below meth c 4 cells slots A D Q (wP (wX cI cJ cD cS a) (wM cI a')) u 1170 (lvL i a a' b0) []) : XW p l e room_1 s m args below meth c 4 cells slots A D Q (wP (wX cI cJ cD cS a) (wM cI a')) ((N, Z, E, G, T), (N, Z', E', G', T')) 826 (lvL i a a' b0) [] := by
  obtain ⟨C, hK, hZ, hA, hX, hbl, hbA, hL, hcs⟩ := hC
  refine hd_aload_n 827 C dL_law_826 rfl 2 rfl rfl ?_
  refine hl_arg_iconst 832 1 C hX hbl hbA hL dL_law_827 dL_law_828 dL_law_829 dL_law_830 dL_law_831 rfl (by decide) 3 0 rfl rfl (by omega) ?_
  refine hl_arg_iconst 837 2 C hX hbl hbA hL dL_law_832 dL_law_833 dL_law_834 dL_law_835 dL_law_836 rfl (by decide) 3 0 rfl rfl (by omega) ?_
  refine hl_arg_iconst 842 3 C hX hbl hbA hL dL_law_837 dL_law_838 dL_law_839 dL_law_840 dL_law_841 rfl (by decide) 3 0 rfl rfl (by omega) ?_
  refine hl_xI (t := some tt) (rest := []) 845 C hK hZ hA hcs dL_law_842 rfl kc_L_87 (x_sheet (xs (i + 1)) (xs (i + 2)) (xs (i + 3)) ) ⟨rfl, rfl⟩ ⟨Nat.le_of_ble_eq_true rfl, Nat.le_of_ble_eq_true rfl⟩ 0 2 rfl rfl rfl rfl rfl (Nat.le_of_ble_eq_true rfl) (fun r1 u1 hp1 => ?_)
  obtain ⟨rfl, hr1⟩ := hp1
  refine hd_aload_n 846 C dL_law_845 rfl 1 rfl rfl ?_
  refine hl_arg_iconst 851 1 C hX hbl hbA hL dL_law_846 dL_law_847 dL_law_848 dL_law_849 dL_law_850 rfl (by decide) 3 0 rfl rfl (by omega) ?_
  refine hl_arg_iconst 856 2 C hX hbl hbA hL dL_law_851 dL_law_852 dL_law_853 dL_law_854 dL_law_855 rfl (by decide) 3 0 rfl rfl (by omega) ?_
  refine hl_arg_iconst 861 3 C hX hbl hbA hL dL_law_856 dL_law_857 dL_law_858 dL_law_859 dL_law_860 rfl (by decide) 3 0 rfl rfl (by omega) ?_
  refine hl_mI (t := none) (rest := [.int r1]) 864 C hK True.intro hA hcs dL_law_861 rfl kc_L_90 (m_sheet (xs (i + 1)) (xs (i + 2)) (xs (i + 3)) ) ⟨rfl, rfl⟩ ⟨Nat.le_of_ble_eq_true rfl, Nat.le_of_ble_eq_true rfl⟩ 0 3 rfl rfl rfl rfl rfl (Nat.le_of_ble_eq_true rfl) (fun r2 u2 hp2 => ?_)
  obtain ⟨rfl, hr2⟩ := hp2
  have hg2 : good2 ((if (inB (xs (i + 1)) 4 = true ∧ inB (xs (i + 2)) 3 = true ∧ xs (i + 3) ≤ nI 60 ∧ ¬ xs (i + 3) < 0) then (N, uZ (uZ (uZ Z 0 1 0) 3 (cl (xs (i + 1))) (xs (i + 2))) 2 (cl (xs (i + 1))) (xs (i + 3)), rZ E (cl (xs (i + 1))) (fun j => if j < 60 then nI 0 else E (cl (xs (i + 1))) j), G, T) else (N, uZ Z 0 1 (fzSheet (xs (i + 1)) (xs (i + 2)) (xs (i + 3))), E, G, T)), (if (inB (xs (i + 1)) 4 = true ∧ inB (xs (i + 2)) 3 = true ∧ xs (i + 3) ≤ nI 60 ∧ ¬ xs (i + 3) < 0) then (N, uZ (uZ (uZ Z' 2 (cl (xs (i + 1))) (xs (i + 3))) 3 (cl (xs (i + 1))) (xs (i + 2))) 0 1 0, fz0 E' (cl (xs (i + 1))) (cl (xs (i + 3))), G', T') else (N, uZ Z' 0 1 (fzSheet (xs (i + 1)) (xs (i + 2)) (xs (i + 3))), E', G', T'))) := by
    by_cases hc : inB (xs (i + 1)) 4 = true ∧ inB (xs (i + 2)) 3 = true ∧ xs (i + 3) ≤ nI 60 ∧ ¬ xs (i + 3) < 0
    · rw [if_pos hc, if_pos hc]
      exact ⟨rfl, hI, RZ_sheet hR _ _ hc.2.2.1 hc.2.2.2⟩
    · rw [if_neg hc, if_neg hc]
      exact ⟨rfl, hI, RZ_fz hR _⟩
  exact hd_icmp_eq 867 1170 C dL_law_864 rfl (by decide) (fun _ => kk _ hg2) (fun hne => absurd (hr1.trans hr2.symm) hne)
theorem lc_lose (hC : lwC p s m args meth c A D cI cJ cD cS tt b0 L xs cells slots) (hi : i + 8 ≤ L) (hI : inv N) (hR : RZ Z E Z' E') (kk : ∀ u : sT × sT, good2 u → XW p l e room_1 s m args below meth c 4 cells slots A D Q (wP (wX cI cJ cD cS a) (wM cI a')) u 1170 (lvL i a a' b0) []) : XW p l e room_1 s m args below meth c 4 cells slots A D Q (wP (wX cI cJ cD cS a) (wM cI a')) ((N, Z, E, G, T), (N, Z', E', G', T')) 869 (lvL i a a' b0) [] := by
  obtain ⟨C, hK, hZ, hA, hX, hbl, hbA, hL, hcs⟩ := hC
  refine hd_aload_n 870 C dL_law_869 rfl 2 rfl rfl ?_
  refine hl_arg_iconst 875 1 C hX hbl hbA hL dL_law_870 dL_law_871 dL_law_872 dL_law_873 dL_law_874 rfl (by decide) 3 0 rfl rfl (by omega) ?_
  refine hl_xI (t := some tt) (rest := []) 878 C hK hZ hA hcs dL_law_875 rfl kc_L_91 (x_lose (xs (i + 1)) hR.hz) ⟨rfl, rfl⟩ ⟨Nat.le_of_ble_eq_true rfl, Nat.le_of_ble_eq_true rfl⟩ 0 2 rfl rfl rfl rfl rfl (Nat.le_of_ble_eq_true rfl) (fun r1 u1 hp1 => ?_)
  obtain ⟨rfl, hr1⟩ := hp1
  refine hd_aload_n 879 C dL_law_878 rfl 1 rfl rfl ?_
  refine hl_arg_iconst 884 1 C hX hbl hbA hL dL_law_879 dL_law_880 dL_law_881 dL_law_882 dL_law_883 rfl (by decide) 3 0 rfl rfl (by omega) ?_
  refine hl_mI (t := none) (rest := [.int r1]) 887 C hK True.intro hA hcs dL_law_884 rfl kc_L_94 (m_lose (xs (i + 1)) hR.hz') ⟨rfl, rfl⟩ ⟨Nat.le_of_ble_eq_true rfl, Nat.le_of_ble_eq_true rfl⟩ 0 3 rfl rfl rfl rfl rfl (Nat.le_of_ble_eq_true rfl) (fun r2 u2 hp2 => ?_)
  obtain ⟨rfl, hr2⟩ := hp2
  exact hd_icmp_eq 890 1170 C dL_law_887 rfl (by decide) (fun _ => kk _ ⟨rfl, hI, (RZ_lose hR _).1⟩) (fun hne => absurd (hr1.trans (Eq.trans (RZ_lose hR _).2 hr2.symm)) hne)
theorem lc_put (hC : lwC p s m args meth c A D cI cJ cD cS tt b0 L xs cells slots) (hi : i + 8 ≤ L) (hI : inv N) (hR : RZ Z E Z' E') (kk : ∀ u : sT × sT, good2 u → XW p l e room_1 s m args below meth c 4 cells slots A D Q (wP (wX cI cJ cD cS a) (wM cI a')) u 1170 (lvL i a a' b0) []) : XW p l e room_1 s m args below meth c 4 cells slots A D Q (wP (wX cI cJ cD cS a) (wM cI a')) ((N, Z, E, G, T), (N, Z', E', G', T')) 892 (lvL i a a' b0) [] := by
  obtain ⟨C, hK, hZ, hA, hX, hbl, hbA, hL, hcs⟩ := hC
  refine hd_aload_n 893 C dL_law_892 rfl 2 rfl rfl ?_
  refine hl_arg_iconst 898 1 C hX hbl hbA hL dL_law_893 dL_law_894 dL_law_895 dL_law_896 dL_law_897 rfl (by decide) 3 0 rfl rfl (by omega) ?_
  refine hl_arg_iconst 903 2 C hX hbl hbA hL dL_law_898 dL_law_899 dL_law_900 dL_law_901 dL_law_902 rfl (by decide) 3 0 rfl rfl (by omega) ?_
  refine hl_arg_iconst 908 3 C hX hbl hbA hL dL_law_903 dL_law_904 dL_law_905 dL_law_906 dL_law_907 rfl (by decide) 3 0 rfl rfl (by omega) ?_
  refine hl_xI (t := some tt) (rest := []) 911 C hK hZ hA hcs dL_law_908 rfl kc_L_95 (x_put (xs (i + 1)) (xs (i + 2)) (xs (i + 3)) hR.hz) ⟨rfl, rfl⟩ ⟨Nat.le_of_ble_eq_true rfl, Nat.le_of_ble_eq_true rfl⟩ 0 2 rfl rfl rfl rfl rfl (Nat.le_of_ble_eq_true rfl) (fun r1 u1 hp1 => ?_)
  obtain ⟨rfl, hr1⟩ := hp1
  refine hd_aload_n 912 C dL_law_911 rfl 1 rfl rfl ?_
  refine hl_arg_iconst 917 1 C hX hbl hbA hL dL_law_912 dL_law_913 dL_law_914 dL_law_915 dL_law_916 rfl (by decide) 3 0 rfl rfl (by omega) ?_
  refine hl_arg_iconst 922 2 C hX hbl hbA hL dL_law_917 dL_law_918 dL_law_919 dL_law_920 dL_law_921 rfl (by decide) 3 0 rfl rfl (by omega) ?_
  refine hl_arg_iconst 927 3 C hX hbl hbA hL dL_law_922 dL_law_923 dL_law_924 dL_law_925 dL_law_926 rfl (by decide) 3 0 rfl rfl (by omega) ?_
  refine hl_mI (t := none) (rest := [.int r1]) 930 C hK True.intro hA hcs dL_law_927 rfl kc_L_98 (m_put (xs (i + 1)) (xs (i + 2)) (xs (i + 3)) hR.hz') ⟨rfl, rfl⟩ ⟨Nat.le_of_ble_eq_true rfl, Nat.le_of_ble_eq_true rfl⟩ 0 3 rfl rfl rfl rfl rfl (Nat.le_of_ble_eq_true rfl) (fun r2 u2 hp2 => ?_)
  obtain ⟨rfl, hr2⟩ := hp2
  exact hd_icmp_eq 933 1170 C dL_law_930 rfl (by decide) (fun _ => kk _ ⟨rfl, hI, by rw [(sp_put hR _ _).2]; exact RZ_fz (RZ_put hR _ _ _) _⟩) (fun hne => absurd (hr1.trans (Eq.trans (sp_put hR _ _).1 hr2.symm)) hne)
theorem lc_cell (hC : lwC p s m args meth c A D cI cJ cD cS tt b0 L xs cells slots) (hi : i + 8 ≤ L) (hI : inv N) (hR : RZ Z E Z' E') (kk : ∀ u : sT × sT, good2 u → XW p l e room_1 s m args below meth c 4 cells slots A D Q (wP (wX cI cJ cD cS a) (wM cI a')) u 1170 (lvL i a a' b0) []) : XW p l e room_1 s m args below meth c 4 cells slots A D Q (wP (wX cI cJ cD cS a) (wM cI a')) ((N, Z, E, G, T), (N, Z', E', G', T')) 935 (lvL i a a' b0) [] := by
  obtain ⟨C, hK, hZ, hA, hX, hbl, hbA, hL, hcs⟩ := hC
  refine hd_aload_n 936 C dL_law_935 rfl 2 rfl rfl ?_
  refine hl_arg_iconst 941 1 C hX hbl hbA hL dL_law_936 dL_law_937 dL_law_938 dL_law_939 dL_law_940 rfl (by decide) 3 0 rfl rfl (by omega) ?_
  refine hl_arg_iconst 946 2 C hX hbl hbA hL dL_law_941 dL_law_942 dL_law_943 dL_law_944 dL_law_945 rfl (by decide) 3 0 rfl rfl (by omega) ?_
  refine hl_arg_iconst 951 3 C hX hbl hbA hL dL_law_946 dL_law_947 dL_law_948 dL_law_949 dL_law_950 rfl (by decide) 3 0 rfl rfl (by omega) ?_
  refine hl_xL (t := some tt) (rest := []) 954 C hK hZ hA hcs dL_law_951 rfl kc_L_99 (x_cell (xs (i + 1)) (xs (i + 2)) (xs (i + 3)) hR.hz) ⟨rfl, rfl⟩ ⟨Nat.le_of_ble_eq_true rfl, Nat.le_of_ble_eq_true rfl⟩ 0 2 rfl rfl rfl rfl rfl (Nat.le_of_ble_eq_true rfl) (fun r1 u1 hp1 => ?_)
  obtain ⟨rfl, hr1⟩ := hp1
  refine hd_aload_n 955 C dL_law_954 rfl 1 rfl rfl ?_
  refine hl_arg_iconst 960 1 C hX hbl hbA hL dL_law_955 dL_law_956 dL_law_957 dL_law_958 dL_law_959 rfl (by decide) 3 0 rfl rfl (by omega) ?_
  refine hl_arg_iconst 965 2 C hX hbl hbA hL dL_law_960 dL_law_961 dL_law_962 dL_law_963 dL_law_964 rfl (by decide) 3 0 rfl rfl (by omega) ?_
  refine hl_arg_iconst 970 3 C hX hbl hbA hL dL_law_965 dL_law_966 dL_law_967 dL_law_968 dL_law_969 rfl (by decide) 3 0 rfl rfl (by omega) ?_
  refine hl_mL (t := none) (rest := [.long r1]) 973 C hK True.intro hA hcs dL_law_970 rfl kc_L_103 (m_cell (xs (i + 1)) (xs (i + 2)) (xs (i + 3)) hR.hz') ⟨rfl, rfl⟩ ⟨Nat.le_of_ble_eq_true rfl, Nat.le_of_ble_eq_true rfl⟩ 0 3 rfl rfl rfl rfl rfl (Nat.le_of_ble_eq_true rfl) (fun r2 u2 hp2 => ?_)
  obtain ⟨rfl, hr2⟩ := hp2
  exact hd_lc_eq 977 1170 C dL_law_973 dL_law_974 rfl (by decide) (fun _ => kk _ ⟨rfl, hI, by rw [fz_cell hR]; exact RZ_fz hR _⟩) (fun hne => absurd (hr1.trans (Eq.trans (sp_cell hR _ _ _) hr2.symm)) hne)
theorem lc_copy (hC : lwC p s m args meth c A D cI cJ cD cS tt b0 L xs cells slots) (hi : i + 8 ≤ L) (hI : inv N) (hR : RZ Z E Z' E') (kk : ∀ u : sT × sT, good2 u → XW p l e room_1 s m args below meth c 4 cells slots A D Q (wP (wX cI cJ cD cS a) (wM cI a')) u 1170 (lvL i a a' b0) []) : XW p l e room_1 s m args below meth c 4 cells slots A D Q (wP (wX cI cJ cD cS a) (wM cI a')) ((N, Z, E, G, T), (N, Z', E', G', T')) 979 (lvL i a a' b0) [] := by
  obtain ⟨C, hK, hZ, hA, hX, hbl, hbA, hL, hcs⟩ := hC
  refine hd_aload_n 980 C dL_law_979 rfl 2 rfl rfl ?_
  refine hl_arg_iconst 985 1 C hX hbl hbA hL dL_law_980 dL_law_981 dL_law_982 dL_law_983 dL_law_984 rfl (by decide) 3 0 rfl rfl (by omega) ?_
  refine hl_arg_iconst 990 2 C hX hbl hbA hL dL_law_985 dL_law_986 dL_law_987 dL_law_988 dL_law_989 rfl (by decide) 3 0 rfl rfl (by omega) ?_
  refine hl_arg_iconst 995 3 C hX hbl hbA hL dL_law_990 dL_law_991 dL_law_992 dL_law_993 dL_law_994 rfl (by decide) 3 0 rfl rfl (by omega) ?_
  refine hl_arg_iconst 1000 4 C hX hbl hbA hL dL_law_995 dL_law_996 dL_law_997 dL_law_998 dL_law_999 rfl (by decide) 3 0 rfl rfl (by omega) ?_
  refine hl_arg_iconst 1005 5 C hX hbl hbA hL dL_law_1000 dL_law_1001 dL_law_1002 dL_law_1003 dL_law_1004 rfl (by decide) 3 0 rfl rfl (by omega) ?_
  refine hl_xI (t := some tt) (rest := []) 1008 C hK hZ hA hcs dL_law_1005 rfl kc_L_104 (x_copy (xs (i + 1)) (xs (i + 2)) (xs (i + 3)) (xs (i + 4)) (xs (i + 5)) hR.hz) ⟨rfl, rfl⟩ ⟨Nat.le_of_ble_eq_true rfl, Nat.le_of_ble_eq_true rfl⟩ 0 2 rfl rfl rfl rfl rfl (Nat.le_of_ble_eq_true rfl) (fun r1 u1 hp1 => ?_)
  obtain ⟨rfl, hr1⟩ := hp1
  refine hd_aload_n 1009 C dL_law_1008 rfl 1 rfl rfl ?_
  refine hl_arg_iconst 1014 1 C hX hbl hbA hL dL_law_1009 dL_law_1010 dL_law_1011 dL_law_1012 dL_law_1013 rfl (by decide) 3 0 rfl rfl (by omega) ?_
  refine hl_arg_iconst 1019 2 C hX hbl hbA hL dL_law_1014 dL_law_1015 dL_law_1016 dL_law_1017 dL_law_1018 rfl (by decide) 3 0 rfl rfl (by omega) ?_
  refine hl_arg_iconst 1024 3 C hX hbl hbA hL dL_law_1019 dL_law_1020 dL_law_1021 dL_law_1022 dL_law_1023 rfl (by decide) 3 0 rfl rfl (by omega) ?_
  refine hl_arg_iconst 1029 4 C hX hbl hbA hL dL_law_1024 dL_law_1025 dL_law_1026 dL_law_1027 dL_law_1028 rfl (by decide) 3 0 rfl rfl (by omega) ?_
  refine hl_arg_iconst 1034 5 C hX hbl hbA hL dL_law_1029 dL_law_1030 dL_law_1031 dL_law_1032 dL_law_1033 rfl (by decide) 3 0 rfl rfl (by omega) ?_
  refine hl_mI (t := none) (rest := [.int r1]) 1037 C hK True.intro hA hcs dL_law_1034 rfl kc_L_108 (m_copy (xs (i + 1)) (xs (i + 2)) (xs (i + 3)) (xs (i + 4)) (xs (i + 5)) hR.hz') ⟨rfl, rfl⟩ ⟨Nat.le_of_ble_eq_true rfl, Nat.le_of_ble_eq_true rfl⟩ 0 3 rfl rfl rfl rfl rfl (Nat.le_of_ble_eq_true rfl) (fun r2 u2 hp2 => ?_)
  obtain ⟨⟨g, rfl⟩, hr2⟩ := hp2
  exact hd_icmp_eq 1040 1170 C dL_law_1037 rfl (by decide) (fun _ => kk _ ⟨rfl, hI, by rw [(sp_copy hR _ _ _ _ _).2]; exact RZ_fz (RZ_M (RZ_copy hR _ _ _ _ _) rfl rfl rfl (fun r i h1 h2 => by simp [rZ, show ¬ r = 27 by omega])) _⟩) (fun hne => absurd (hr1.trans (Eq.trans (sp_copy hR _ _ _ _ _).1 hr2.symm)) hne)
theorem lc_tell (hC : lwC p s m args meth c A D cI cJ cD cS tt b0 L xs cells slots) (hi : i + 8 ≤ L) (hI : inv N) (hR : RZ Z E Z' E') (kk : ∀ u : sT × sT, good2 u → XW p l e room_1 s m args below meth c 4 cells slots A D Q (wP (wX cI cJ cD cS a) (wM cI a')) u 1170 (lvL i a a' b0) []) : XW p l e room_1 s m args below meth c 4 cells slots A D Q (wP (wX cI cJ cD cS a) (wM cI a')) ((N, Z, E, G, T), (N, Z', E', G', T')) 1042 (lvL i a a' b0) [] := by
  obtain ⟨C, hK, hZ, hA, hX, hbl, hbA, hL, hcs⟩ := hC
  refine hd_aload_n 1043 C dL_law_1042 rfl 2 rfl rfl ?_
  refine hl_arg_iconst 1048 1 C hX hbl hbA hL dL_law_1043 dL_law_1044 dL_law_1045 dL_law_1046 dL_law_1047 rfl (by decide) 3 0 rfl rfl (by omega) ?_
  refine hl_xI (t := some tt) (rest := []) 1051 C hK hZ hA hcs dL_law_1048 rfl kc_L_109 (x_tell (xs (i + 1)) hI) ⟨rfl, rfl⟩ ⟨Nat.le_of_ble_eq_true rfl, Nat.le_of_ble_eq_true rfl⟩ 0 2 rfl rfl rfl rfl rfl (Nat.le_of_ble_eq_true rfl) (fun r1 u1 hp1 => ?_)
  obtain ⟨rfl, hr1⟩ := hp1
  refine hd_aload_n 1052 C dL_law_1051 rfl 1 rfl rfl ?_
  refine hl_arg_iconst 1057 1 C hX hbl hbA hL dL_law_1052 dL_law_1053 dL_law_1054 dL_law_1055 dL_law_1056 rfl (by decide) 3 0 rfl rfl (by omega) ?_
  refine hl_mI (t := none) (rest := [.int r1]) 1060 C hK True.intro hA hcs dL_law_1057 rfl kc_L_112 (m_tell (xs (i + 1)) hI) ⟨rfl, rfl⟩ ⟨Nat.le_of_ble_eq_true rfl, Nat.le_of_ble_eq_true rfl⟩ 0 3 rfl rfl rfl rfl rfl (Nat.le_of_ble_eq_true rfl) (fun r2 u2 hp2 => ?_)
  obtain ⟨rfl, hr2⟩ := hp2
  exact hd_icmp_eq 1063 1170 C dL_law_1060 rfl (by decide) (fun _ => kk _ ⟨rfl, hI, by rw [hR.1]; exact RZ_tr hR _⟩) (fun hne => absurd (hr1.trans hr2.symm) hne)
theorem lc_knock (hC : lwC p s m args meth c A D cI cJ cD cS tt b0 L xs cells slots) (hi : i + 8 ≤ L) (hI : inv N) (hR : RZ Z E Z' E') (kk : ∀ u : sT × sT, good2 u → XW p l e room_1 s m args below meth c 4 cells slots A D Q (wP (wX cI cJ cD cS a) (wM cI a')) u 1170 (lvL i a a' b0) []) : XW p l e room_1 s m args below meth c 4 cells slots A D Q (wP (wX cI cJ cD cS a) (wM cI a')) ((N, Z, E, G, T), (N, Z', E', G', T')) 1065 (lvL i a a' b0) [] := by
  obtain ⟨C, hK, hZ, hA, hX, hbl, hbA, hL, hcs⟩ := hC
  refine hd_aload_n 1066 C dL_law_1065 rfl 2 rfl rfl ?_
  refine hl_arg_iconst 1071 1 C hX hbl hbA hL dL_law_1066 dL_law_1067 dL_law_1068 dL_law_1069 dL_law_1070 rfl (by decide) 3 0 rfl rfl (by omega) ?_
  refine hl_xI (t := some tt) (rest := []) 1074 C hK hZ hA hcs dL_law_1071 rfl kc_L_113 (x_knock (xs (i + 1)) hI) ⟨rfl, rfl⟩ ⟨Nat.le_of_ble_eq_true rfl, Nat.le_of_ble_eq_true rfl⟩ 0 2 rfl rfl rfl rfl rfl (Nat.le_of_ble_eq_true rfl) (fun r1 u1 hp1 => ?_)
  obtain ⟨rfl, hr1⟩ := hp1
  refine hd_aload_n 1075 C dL_law_1074 rfl 1 rfl rfl ?_
  refine hl_arg_iconst 1080 1 C hX hbl hbA hL dL_law_1075 dL_law_1076 dL_law_1077 dL_law_1078 dL_law_1079 rfl (by decide) 3 0 rfl rfl (by omega) ?_
  refine hl_mI (t := none) (rest := [.int r1]) 1083 C hK True.intro hA hcs dL_law_1080 rfl kc_L_116 (m_knock (xs (i + 1)) hI) ⟨rfl, rfl⟩ ⟨Nat.le_of_ble_eq_true rfl, Nat.le_of_ble_eq_true rfl⟩ 0 3 rfl rfl rfl rfl rfl (Nat.le_of_ble_eq_true rfl) (fun r2 u2 hp2 => ?_)
  obtain ⟨rfl, hr2⟩ := hp2
  exact hd_icmp_eq 1086 1170 C dL_law_1083 rfl (by decide) (fun _ => kk _ ⟨rfl, hI, by rw [hR.1]; exact RZ_tr hR _⟩) (fun hne => absurd (hr1.trans hr2.symm) hne)
theorem lc_as (hC : lwC p s m args meth c A D cI cJ cD cS tt b0 L xs cells slots) (hi : i + 8 ≤ L) (hI : inv N) (hR : RZ Z E Z' E') (kk : ∀ u : sT × sT, good2 u → XW p l e room_1 s m args below meth c 4 cells slots A D Q (wP (wX cI cJ cD cS a) (wM cI a')) u 1170 (lvL i a a' b0) []) : XW p l e room_1 s m args below meth c 4 cells slots A D Q (wP (wX cI cJ cD cS a) (wM cI a')) ((N, Z, E, G, T), (N, Z', E', G', T')) 1088 (lvL i a a' b0) [] := by
  obtain ⟨C, hK, hZ, hA, hX, hbl, hbA, hL, hcs⟩ := hC
  refine hd_aload_n 1089 C dL_law_1088 rfl 2 rfl rfl ?_
  refine hl_arg_iconst 1094 1 C hX hbl hbA hL dL_law_1089 dL_law_1090 dL_law_1091 dL_law_1092 dL_law_1093 rfl (by decide) 3 0 rfl rfl (by omega) ?_
  refine hl_arg_iconst 1099 2 C hX hbl hbA hL dL_law_1094 dL_law_1095 dL_law_1096 dL_law_1097 dL_law_1098 rfl (by decide) 3 0 rfl rfl (by omega) ?_
  refine hl_xI (t := some tt) (rest := []) 1102 C hK hZ hA hcs dL_law_1099 rfl kc_L_117 (x_as (xs (i + 1)) (xs (i + 2)) hI) ⟨rfl, rfl⟩ ⟨Nat.le_of_ble_eq_true rfl, Nat.le_of_ble_eq_true rfl⟩ 0 2 rfl rfl rfl rfl rfl (Nat.le_of_ble_eq_true rfl) (fun r1 u1 hp1 => ?_)
  obtain ⟨rfl, hr1⟩ := hp1
  refine hd_aload_n 1103 C dL_law_1102 rfl 1 rfl rfl ?_
  refine hl_arg_iconst 1108 1 C hX hbl hbA hL dL_law_1103 dL_law_1104 dL_law_1105 dL_law_1106 dL_law_1107 rfl (by decide) 3 0 rfl rfl (by omega) ?_
  refine hl_arg_iconst 1113 2 C hX hbl hbA hL dL_law_1108 dL_law_1109 dL_law_1110 dL_law_1111 dL_law_1112 rfl (by decide) 3 0 rfl rfl (by omega) ?_
  refine hl_mI (t := none) (rest := [.int r1]) 1116 C hK True.intro hA hcs dL_law_1113 rfl kc_L_120 (m_as (xs (i + 1)) (xs (i + 2)) hI) ⟨rfl, rfl⟩ ⟨Nat.le_of_ble_eq_true rfl, Nat.le_of_ble_eq_true rfl⟩ 0 3 rfl rfl rfl rfl rfl (Nat.le_of_ble_eq_true rfl) (fun r2 u2 hp2 => ?_)
  obtain ⟨rfl, hr2⟩ := hp2
  exact hd_icmp_eq 1119 1170 C dL_law_1116 rfl (by decide) (fun _ => kk _ ⟨rfl, hI, RZ_fz hR _⟩) (fun hne => absurd (hr1.trans hr2.symm) hne)
theorem lc_trace (hC : lwC p s m args meth c A D cI cJ cD cS tt b0 L xs cells slots) (hi : i + 8 ≤ L) (hI : inv N) (hR : RZ Z E Z' E') (kk : ∀ u : sT × sT, good2 u → XW p l e room_1 s m args below meth c 4 cells slots A D Q (wP (wX cI cJ cD cS a) (wM cI a')) u 1170 (lvL i a a' b0) []) : XW p l e room_1 s m args below meth c 4 cells slots A D Q (wP (wX cI cJ cD cS a) (wM cI a')) ((N, Z, E, G, T), (N, Z', E', G', T')) 1121 (lvL i a a' b0) [] := by
  obtain ⟨C, hK, hZ, hA, hX, hbl, hbA, hL, hcs⟩ := hC
  refine hd_aload_n 1122 C dL_law_1121 rfl 2 rfl rfl ?_
  refine hl_xI (t := some tt) (rest := []) 1125 C hK hZ hA hcs dL_law_1122 rfl kc_L_121 (x_trace  ) ⟨rfl, rfl⟩ ⟨Nat.le_of_ble_eq_true rfl, Nat.le_of_ble_eq_true rfl⟩ 0 2 rfl rfl rfl rfl rfl (Nat.le_of_ble_eq_true rfl) (fun r1 u1 hp1 => ?_)
  obtain ⟨rfl, hr1⟩ := hp1
  refine hd_aload_n 1126 C dL_law_1125 rfl 1 rfl rfl ?_
  refine hl_mI (t := none) (rest := [.int r1]) 1129 C hK True.intro hA hcs dL_law_1126 rfl kc_L_125 (m_trace  ) ⟨rfl, rfl⟩ ⟨Nat.le_of_ble_eq_true rfl, Nat.le_of_ble_eq_true rfl⟩ 0 3 rfl rfl rfl rfl rfl (Nat.le_of_ble_eq_true rfl) (fun r2 u2 hp2 => ?_)
  obtain ⟨rfl, hr2⟩ := hp2
  exact hd_icmp_eq 1132 1170 C dL_law_1129 rfl (by decide) (fun _ => kk _ ⟨rfl, hI, hR⟩) (fun hne => absurd (hr1.trans (Eq.trans hR.1 hr2.symm)) hne)
theorem lc_fault (hC : lwC p s m args meth c A D cI cJ cD cS tt b0 L xs cells slots) (hi : i + 8 ≤ L) (hI : inv N) (hR : RZ Z E Z' E') (kk : ∀ u : sT × sT, good2 u → XW p l e room_1 s m args below meth c 4 cells slots A D Q (wP (wX cI cJ cD cS a) (wM cI a')) u 1170 (lvL i a a' b0) []) : XW p l e room_1 s m args below meth c 4 cells slots A D Q (wP (wX cI cJ cD cS a) (wM cI a')) ((N, Z, E, G, T), (N, Z', E', G', T')) 1134 (lvL i a a' b0) [] := by
  obtain ⟨C, hK, hZ, hA, hX, hbl, hbA, hL, hcs⟩ := hC
  refine hd_aload_n 1135 C dL_law_1134 rfl 2 rfl rfl ?_
  refine hl_xI (t := some tt) (rest := []) 1138 C hK hZ hA hcs dL_law_1135 rfl kc_L_126 (x_fault  ) ⟨rfl, rfl⟩ ⟨Nat.le_of_ble_eq_true rfl, Nat.le_of_ble_eq_true rfl⟩ 0 2 rfl rfl rfl rfl rfl (Nat.le_of_ble_eq_true rfl) (fun r1 u1 hp1 => ?_)
  obtain ⟨rfl, hr1⟩ := hp1
  refine hd_aload_n 1139 C dL_law_1138 rfl 1 rfl rfl ?_
  refine hl_mI (t := none) (rest := [.int r1]) 1142 C hK True.intro hA hcs dL_law_1139 rfl kc_L_129 (m_fault  ) ⟨rfl, rfl⟩ ⟨Nat.le_of_ble_eq_true rfl, Nat.le_of_ble_eq_true rfl⟩ 0 3 rfl rfl rfl rfl rfl (Nat.le_of_ble_eq_true rfl) (fun r2 u2 hp2 => ?_)
  obtain ⟨rfl, hr2⟩ := hp2
  exact hd_icmp_eq 1145 1170 C dL_law_1142 rfl (by decide) (fun _ => kk _ ⟨rfl, hI, hR⟩) (fun hne => absurd (hr1.trans (Eq.trans hR.2.1 hr2.symm)) hne)
theorem lc_many (hC : lwC p s m args meth c A D cI cJ cD cS tt b0 L xs cells slots) (hi : i + 8 ≤ L) (hI : inv N) (hR : RZ Z E Z' E') (kk : ∀ u : sT × sT, good2 u → XW p l e room_1 s m args below meth c 4 cells slots A D Q (wP (wX cI cJ cD cS a) (wM cI a')) u 1170 (lvL i a a' b0) []) : XW p l e room_1 s m args below meth c 4 cells slots A D Q (wP (wX cI cJ cD cS a) (wM cI a')) ((N, Z, E, G, T), (N, Z', E', G', T')) 1147 (lvL i a a' b0) [] := by
  obtain ⟨C, hK, hZ, hA, hX, hbl, hbA, hL, hcs⟩ := hC
  refine hd_aload_n 1148 C dL_law_1147 rfl 2 rfl rfl ?_
  refine hl_arg_iconst 1153 1 C hX hbl hbA hL dL_law_1148 dL_law_1149 dL_law_1150 dL_law_1151 dL_law_1152 rfl (by decide) 3 0 rfl rfl (by omega) ?_
  refine hl_xI (t := some tt) (rest := []) 1156 C hK hZ hA hcs dL_law_1153 rfl kc_L_130 (x_many (xs (i + 1)) ) ⟨rfl, rfl⟩ ⟨Nat.le_of_ble_eq_true rfl, Nat.le_of_ble_eq_true rfl⟩ 0 2 rfl rfl rfl rfl rfl (Nat.le_of_ble_eq_true rfl) (fun r1 u1 hp1 => ?_)
  obtain ⟨rfl, hr1⟩ := hp1
  refine hd_aload_n 1157 C dL_law_1156 rfl 1 rfl rfl ?_
  refine hl_arg_iconst 1162 1 C hX hbl hbA hL dL_law_1157 dL_law_1158 dL_law_1159 dL_law_1160 dL_law_1161 rfl (by decide) 3 0 rfl rfl (by omega) ?_
  refine hl_mI (t := none) (rest := [.int r1]) 1165 C hK True.intro hA hcs dL_law_1162 rfl kc_L_133 (m_many (xs (i + 1)) ) ⟨rfl, rfl⟩ ⟨Nat.le_of_ble_eq_true rfl, Nat.le_of_ble_eq_true rfl⟩ 0 3 rfl rfl rfl rfl rfl (Nat.le_of_ble_eq_true rfl) (fun r2 u2 hp2 => ?_)
  obtain ⟨rfl, hr2⟩ := hp2
  exact hd_icmp_eq 1168 1170 C dL_law_1165 rfl (by decide) (fun _ => kk _ ⟨rfl, hI, hR⟩) (fun hne => absurd (hr1.trans hr2.symm) hne)
end HDC2
