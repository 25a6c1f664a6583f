/-! the cases of the law: written by program (wip/whole/mklaw.py) -/
section LAWK
variable {l : Launch} {R0 : Room} {K : AK} {hs : List va_E} {Lx i : Nat} {xs : Nat → Int32} {s : Sf} {R : Nat → Nat → Nat} {F : Nat → Nat} {L : Nat → Int64}
set_option maxHeartbeats 4000000 in
set_option maxRecDepth 20000 in
theorem law_feed (hC : Cs l cL_law RL 4 R0 K Lx xs) (hR1 : 20 ≤ R0.frames) (hR2 : 800 ≤ R0.locals) (hLx : Lx < 2 ^ 31) (hi : i + 4 < Lx) (hF : FR s R F) (hw : LW s R F L hs) (hn : ∀ (s2 : Sf) (R2 : Nat → Nat → Nat) (F2 : Nat → Nat) (L2 : Nat → Int64) (hs2 : List va_E), FR s2 R2 F2 → LW s2 R2 F2 L2 hs2 → K 997 [(0, .ref 500), (1, .ref 0), (2, .ref 45), (3, .int (nI i))] [] hs2) : K 164 [(0, .ref 500), (1, .ref 0), (2, .ref 45), (3, .int (nI i))] [] hs := by
  refine hC.cl.aload_n dL_law_164 rfl ?_
  refine hC.num (i := i) (k := 1) dL_law_165 dL_law_166 dL_law_167 dL_law_168 dL_law_169 rfl rfl rfl hLx (by omega) ?_
  refine hC.num (i := i) (k := 2) dL_law_170 dL_law_171 dL_law_172 dL_law_173 dL_law_174 rfl rfl rfl hLx (by omega) ?_
  refine hC.cl.i2l dL_law_175 ?_
  refine hC.cl.bipush dL_law_176 (v := nI 32) rfl ?_
  refine hC.cl.lshl dL_law_178 ?_
  refine hC.num (i := i) (k := 3) dL_law_179 dL_law_180 dL_law_181 dL_law_182 dL_law_183 rfl rfl rfl hLx (by omega) ?_
  refine hC.cl.i2l dL_law_184 ?_
  refine hC.cl.ldc2_w dL_law_185 lcL_13 ?_
  refine hC.cl.land dL_law_188 ?_
  refine hC.cl.lor dL_law_189 ?_
  generalize hy : (_ : Int64) ||| _ = y
  obtain ⟨v, dS, dM, PS, PM, h1, h2, hS, hM, hT⟩ := two_feed l L hF (xs (i + 1)) y
  refine hC.cl.lawS (st := []) (PS := PS) dL_law_190 lmL_15 mkX8_feed svX8_feed rfl (rm_up h1 hR1 hR2) hS rfl (fun _ => rfl) (Nat.le_of_ble_eq_true rfl) rfl hw (fun s2 w2 hs2 hp hw2 => ?_)
  refine hC.cl.aload_n dL_law_193 rfl ?_
  refine hC.num (i := i) (k := 1) dL_law_194 dL_law_195 dL_law_196 dL_law_197 dL_law_198 rfl rfl rfl hLx (by omega) ?_
  refine hC.num (i := i) (k := 2) dL_law_199 dL_law_200 dL_law_201 dL_law_202 dL_law_203 rfl rfl rfl hLx (by omega) ?_
  refine hC.cl.i2l dL_law_204 ?_
  refine hC.cl.bipush dL_law_205 (v := nI 32) rfl ?_
  refine hC.cl.lshl dL_law_207 ?_
  refine hC.num (i := i) (k := 3) dL_law_208 dL_law_209 dL_law_210 dL_law_211 dL_law_212 rfl rfl rfl hLx (by omega) ?_
  refine hC.cl.i2l dL_law_213 ?_
  refine hC.cl.ldc2_w dL_law_214 lcL_13 ?_
  refine hC.cl.land dL_law_217 ?_
  refine hC.cl.lor dL_law_218 ?_
  rw [hy]
  refine hC.cl.lawM (st := [.int v]) (PM := PM) dL_law_219 lmL_19 mkX9_feed svX9_feed rfl (rm_up h2 hR1 hR2) hM rfl (fun _ => rfl) (Nat.le_of_ble_eq_true rfl) rfl hw2 (fun R2 F2 L2 hs3 hq hw3 => ?_)
  exact hC.cl.icmp_eq dL_law_222 (tgt := 997) rfl (fun _ => hn s2 R2 F2 L2 hs3 (hT s2 w2 R2 F2 L2 hp hq) hw3) (fun c => absurd rfl c)
set_option maxHeartbeats 4000000 in
set_option maxRecDepth 20000 in
theorem law_flag (hC : Cs l cL_law RL 4 R0 K Lx xs) (hR1 : 20 ≤ R0.frames) (hR2 : 800 ≤ R0.locals) (hLx : Lx < 2 ^ 31) (hi : i + 4 < Lx) (hF : FR s R F) (hw : LW s R F L hs) (hn : ∀ (s2 : Sf) (R2 : Nat → Nat → Nat) (F2 : Nat → Nat) (L2 : Nat → Int64) (hs2 : List va_E), FR s2 R2 F2 → LW s2 R2 F2 L2 hs2 → K 997 [(0, .ref 500), (1, .ref 0), (2, .ref 45), (3, .int (nI i))] [] hs2) : K 227 [(0, .ref 500), (1, .ref 0), (2, .ref 45), (3, .int (nI i))] [] hs := by
  obtain ⟨v, dS, dM, PS, PM, h1, h2, hS, hM, hT⟩ := two_flag l L hF
  refine hC.cl.aload_n dL_law_227 rfl ?_
  refine hC.cl.lawS (st := []) (PS := PS) dL_law_228 lmL_20 mkX8_flag svX8_flag rfl (rm_up h1 hR1 hR2) hS rfl (fun _ => rfl) (Nat.le_of_ble_eq_true rfl) rfl hw (fun s2 w2 hs2 hp hw2 => ?_)
  refine hC.cl.aload_n dL_law_231 rfl ?_
  refine hC.cl.lawM (st := [.int v]) (PM := PM) dL_law_232 lmL_24 mkX9_flag svX9_flag rfl (rm_up h2 hR1 hR2) hM rfl (fun _ => rfl) (Nat.le_of_ble_eq_true rfl) rfl hw2 (fun R2 F2 L2 hs3 hq hw3 => ?_)
  exact hC.cl.icmp_eq dL_law_235 (tgt := 997) rfl (fun _ => hn s2 R2 F2 L2 hs3 (hT s2 w2 R2 F2 L2 hp hq) hw3) (fun c => absurd rfl c)
set_option maxHeartbeats 4000000 in
set_option maxRecDepth 20000 in
theorem law_fault (hC : Cs l cL_law RL 4 R0 K Lx xs) (hR1 : 20 ≤ R0.frames) (hR2 : 800 ≤ R0.locals) (hLx : Lx < 2 ^ 31) (hi : i + 4 < Lx) (hF : FR s R F) (hw : LW s R F L hs) (hn : ∀ (s2 : Sf) (R2 : Nat → Nat → Nat) (F2 : Nat → Nat) (L2 : Nat → Int64) (hs2 : List va_E), FR s2 R2 F2 → LW s2 R2 F2 L2 hs2 → K 997 [(0, .ref 500), (1, .ref 0), (2, .ref 45), (3, .int (nI i))] [] hs2) : K 240 [(0, .ref 500), (1, .ref 0), (2, .ref 45), (3, .int (nI i))] [] hs := by
  obtain ⟨v, dS, dM, PS, PM, h1, h2, hS, hM, hT⟩ := two_fault l L hF
  refine hC.cl.aload_n dL_law_240 rfl ?_
  refine hC.cl.lawS (st := []) (PS := PS) dL_law_241 lmL_25 mkX8_fault svX8_fault rfl (rm_up h1 hR1 hR2) hS rfl (fun _ => rfl) (Nat.le_of_ble_eq_true rfl) rfl hw (fun s2 w2 hs2 hp hw2 => ?_)
  refine hC.cl.aload_n dL_law_244 rfl ?_
  refine hC.cl.lawM (st := [.int v]) (PM := PM) dL_law_245 lmL_28 mkX9_fault svX9_fault rfl (rm_up h2 hR1 hR2) hM rfl (fun _ => rfl) (Nat.le_of_ble_eq_true rfl) rfl hw2 (fun R2 F2 L2 hs3 hq hw3 => ?_)
  exact hC.cl.icmp_eq dL_law_248 (tgt := 997) rfl (fun _ => hn s2 R2 F2 L2 hs3 (hT s2 w2 R2 F2 L2 hp hq) hw3) (fun c => absurd rfl c)
set_option maxHeartbeats 4000000 in
set_option maxRecDepth 20000 in
theorem law_told (hC : Cs l cL_law RL 4 R0 K Lx xs) (hR1 : 20 ≤ R0.frames) (hR2 : 800 ≤ R0.locals) (hLx : Lx < 2 ^ 31) (hi : i + 4 < Lx) (hF : FR s R F) (hw : LW s R F L hs) (hn : ∀ (s2 : Sf) (R2 : Nat → Nat → Nat) (F2 : Nat → Nat) (L2 : Nat → Int64) (hs2 : List va_E), FR s2 R2 F2 → LW s2 R2 F2 L2 hs2 → K 997 [(0, .ref 500), (1, .ref 0), (2, .ref 45), (3, .int (nI i))] [] hs2) : K 253 [(0, .ref 500), (1, .ref 0), (2, .ref 45), (3, .int (nI i))] [] hs := by
  obtain ⟨v, dS, dM, PS, PM, h1, h2, hS, hM, hT⟩ := two_told l L hF (xs (i + 1))
  refine hC.cl.aload_n dL_law_253 rfl ?_
  refine hC.num (i := i) (k := 1) dL_law_254 dL_law_255 dL_law_256 dL_law_257 dL_law_258 rfl rfl rfl hLx (by omega) ?_
  refine hC.cl.lawS (st := []) (PS := PS) dL_law_259 lmL_29 mkX8_told svX8_told rfl (rm_up h1 hR1 hR2) hS rfl (fun _ => rfl) (Nat.le_of_ble_eq_true rfl) rfl hw (fun s2 w2 hs2 hp hw2 => ?_)
  refine hC.cl.aload_n dL_law_262 rfl ?_
  refine hC.num (i := i) (k := 1) dL_law_263 dL_law_264 dL_law_265 dL_law_266 dL_law_267 rfl rfl rfl hLx (by omega) ?_
  refine hC.cl.lawM (st := [.int v]) (PM := PM) dL_law_268 lmL_33 mkX9_told svX9_told rfl (rm_up h2 hR1 hR2) hM rfl (fun _ => rfl) (Nat.le_of_ble_eq_true rfl) rfl hw2 (fun R2 F2 L2 hs3 hq hw3 => ?_)
  exact hC.cl.icmp_eq dL_law_271 (tgt := 997) rfl (fun _ => hn s2 R2 F2 L2 hs3 (hT s2 w2 R2 F2 L2 hp hq) hw3) (fun c => absurd rfl c)
set_option maxHeartbeats 4000000 in
set_option maxRecDepth 20000 in
theorem law_seam (hC : Cs l cL_law RL 4 R0 K Lx xs) (hR1 : 20 ≤ R0.frames) (hR2 : 800 ≤ R0.locals) (hLx : Lx < 2 ^ 31) (hi : i + 4 < Lx) (hF : FR s R F) (hw : LW s R F L hs) (hn : ∀ (s2 : Sf) (R2 : Nat → Nat → Nat) (F2 : Nat → Nat) (L2 : Nat → Int64) (hs2 : List va_E), FR s2 R2 F2 → LW s2 R2 F2 L2 hs2 → K 997 [(0, .ref 500), (1, .ref 0), (2, .ref 45), (3, .int (nI i))] [] hs2) : K 276 [(0, .ref 500), (1, .ref 0), (2, .ref 45), (3, .int (nI i))] [] hs := by
  obtain ⟨v, dS, dM, PS, PM, h1, h2, hS, hM, hT⟩ := two_seam l L hF (xs (i + 1)) (xs (i + 2))
  refine hC.cl.aload_n dL_law_276 rfl ?_
  refine hC.num (i := i) (k := 1) dL_law_277 dL_law_278 dL_law_279 dL_law_280 dL_law_281 rfl rfl rfl hLx (by omega) ?_
  refine hC.num (i := i) (k := 2) dL_law_282 dL_law_283 dL_law_284 dL_law_285 dL_law_286 rfl rfl rfl hLx (by omega) ?_
  refine hC.cl.lawS (st := []) (PS := PS) dL_law_287 lmL_34 mkX8_seam svX8_seam rfl (rm_up h1 hR1 hR2) hS rfl (fun _ => rfl) (Nat.le_of_ble_eq_true rfl) rfl hw (fun s2 w2 hs2 hp hw2 => ?_)
  refine hC.cl.aload_n dL_law_290 rfl ?_
  refine hC.num (i := i) (k := 1) dL_law_291 dL_law_292 dL_law_293 dL_law_294 dL_law_295 rfl rfl rfl hLx (by omega) ?_
  refine hC.num (i := i) (k := 2) dL_law_296 dL_law_297 dL_law_298 dL_law_299 dL_law_300 rfl rfl rfl hLx (by omega) ?_
  refine hC.cl.lawM (st := [.int v]) (PM := PM) dL_law_301 lmL_38 mkX9_seam svX9_seam rfl (rm_up h2 hR1 hR2) hM rfl (fun _ => rfl) (Nat.le_of_ble_eq_true rfl) rfl hw2 (fun R2 F2 L2 hs3 hq hw3 => ?_)
  exact hC.cl.icmp_eq dL_law_304 (tgt := 997) rfl (fun _ => hn s2 R2 F2 L2 hs3 (hT s2 w2 R2 F2 L2 hp hq) hw3) (fun c => absurd rfl c)
set_option maxHeartbeats 4000000 in
set_option maxRecDepth 20000 in
theorem law_strip (hC : Cs l cL_law RL 4 R0 K Lx xs) (hR1 : 20 ≤ R0.frames) (hR2 : 800 ≤ R0.locals) (hLx : Lx < 2 ^ 31) (hi : i + 4 < Lx) (hF : FR s R F) (hw : LW s R F L hs) (hn : ∀ (s2 : Sf) (R2 : Nat → Nat → Nat) (F2 : Nat → Nat) (L2 : Nat → Int64) (hs2 : List va_E), FR s2 R2 F2 → LW s2 R2 F2 L2 hs2 → K 997 [(0, .ref 500), (1, .ref 0), (2, .ref 45), (3, .int (nI i))] [] hs2) : K 309 [(0, .ref 500), (1, .ref 0), (2, .ref 45), (3, .int (nI i))] [] hs := by
  obtain ⟨v, dS, dM, PS, PM, h1, h2, hS, hM, hT⟩ := two_strip l L hF (xs (i + 1)) (xs (i + 2))
  refine hC.cl.aload_n dL_law_309 rfl ?_
  refine hC.num (i := i) (k := 1) dL_law_310 dL_law_311 dL_law_312 dL_law_313 dL_law_314 rfl rfl rfl hLx (by omega) ?_
  refine hC.num (i := i) (k := 2) dL_law_315 dL_law_316 dL_law_317 dL_law_318 dL_law_319 rfl rfl rfl hLx (by omega) ?_
  refine hC.cl.lawS (st := []) (PS := PS) dL_law_320 lmL_39 mkX8_strip svX8_strip rfl (rm_up h1 hR1 hR2) hS rfl (fun _ => rfl) (Nat.le_of_ble_eq_true rfl) rfl hw (fun s2 w2 hs2 hp hw2 => ?_)
  refine hC.cl.aload_n dL_law_323 rfl ?_
  refine hC.num (i := i) (k := 1) dL_law_324 dL_law_325 dL_law_326 dL_law_327 dL_law_328 rfl rfl rfl hLx (by omega) ?_
  refine hC.num (i := i) (k := 2) dL_law_329 dL_law_330 dL_law_331 dL_law_332 dL_law_333 rfl rfl rfl hLx (by omega) ?_
  refine hC.cl.lawM (st := [.int v]) (PM := PM) dL_law_334 lmL_42 mkX9_strip svX9_strip rfl (rm_up h2 hR1 hR2) hM rfl (fun _ => rfl) (Nat.le_of_ble_eq_true rfl) rfl hw2 (fun R2 F2 L2 hs3 hq hw3 => ?_)
  exact hC.cl.icmp_eq dL_law_337 (tgt := 997) rfl (fun _ => hn s2 R2 F2 L2 hs3 (hT s2 w2 R2 F2 L2 hp hq) hw3) (fun c => absurd rfl c)
set_option maxHeartbeats 4000000 in
set_option maxRecDepth 20000 in
theorem law_flies (hC : Cs l cL_law RL 4 R0 K Lx xs) (hR1 : 20 ≤ R0.frames) (hR2 : 800 ≤ R0.locals) (hLx : Lx < 2 ^ 31) (hi : i + 4 < Lx) (hF : FR s R F) (hw : LW s R F L hs) (hn : ∀ (s2 : Sf) (R2 : Nat → Nat → Nat) (F2 : Nat → Nat) (L2 : Nat → Int64) (hs2 : List va_E), FR s2 R2 F2 → LW s2 R2 F2 L2 hs2 → K 997 [(0, .ref 500), (1, .ref 0), (2, .ref 45), (3, .int (nI i))] [] hs2) : K 342 [(0, .ref 500), (1, .ref 0), (2, .ref 45), (3, .int (nI i))] [] hs := by
  obtain ⟨v, dS, dM, PS, PM, h1, h2, hS, hM, hT⟩ := two_flies l L hF (xs (i + 1))
  refine hC.cl.aload_n dL_law_342 rfl ?_
  refine hC.num (i := i) (k := 1) dL_law_343 dL_law_344 dL_law_345 dL_law_346 dL_law_347 rfl rfl rfl hLx (by omega) ?_
  refine hC.cl.lawS (st := []) (PS := PS) dL_law_348 lmL_43 mkX8_flies svX8_flies rfl (rm_up h1 hR1 hR2) hS rfl (fun _ => rfl) (Nat.le_of_ble_eq_true rfl) rfl hw (fun s2 w2 hs2 hp hw2 => ?_)
  refine hC.cl.aload_n dL_law_351 rfl ?_
  refine hC.num (i := i) (k := 1) dL_law_352 dL_law_353 dL_law_354 dL_law_355 dL_law_356 rfl rfl rfl hLx (by omega) ?_
  refine hC.cl.lawM (st := [.int v]) (PM := PM) dL_law_357 lmL_46 mkX9_flies svX9_flies rfl (rm_up h2 hR1 hR2) hM rfl (fun _ => rfl) (Nat.le_of_ble_eq_true rfl) rfl hw2 (fun R2 F2 L2 hs3 hq hw3 => ?_)
  exact hC.cl.icmp_eq dL_law_360 (tgt := 997) rfl (fun _ => hn s2 R2 F2 L2 hs3 (hT s2 w2 R2 F2 L2 hp hq) hw3) (fun c => absurd rfl c)
set_option maxHeartbeats 4000000 in
set_option maxRecDepth 20000 in
theorem law_unpick (hC : Cs l cL_law RL 4 R0 K Lx xs) (hR1 : 20 ≤ R0.frames) (hR2 : 800 ≤ R0.locals) (hLx : Lx < 2 ^ 31) (hi : i + 4 < Lx) (hF : FR s R F) (hw : LW s R F L hs) (hn : ∀ (s2 : Sf) (R2 : Nat → Nat → Nat) (F2 : Nat → Nat) (L2 : Nat → Int64) (hs2 : List va_E), FR s2 R2 F2 → LW s2 R2 F2 L2 hs2 → K 997 [(0, .ref 500), (1, .ref 0), (2, .ref 45), (3, .int (nI i))] [] hs2) : K 365 [(0, .ref 500), (1, .ref 0), (2, .ref 45), (3, .int (nI i))] [] hs := by
  obtain ⟨v, dS, dM, PS, PM, h1, h2, hS, hM, hT⟩ := two_unpick l L hF (xs (i + 1)) (xs (i + 2))
  refine hC.cl.aload_n dL_law_365 rfl ?_
  refine hC.num (i := i) (k := 1) dL_law_366 dL_law_367 dL_law_368 dL_law_369 dL_law_370 rfl rfl rfl hLx (by omega) ?_
  refine hC.num (i := i) (k := 2) dL_law_371 dL_law_372 dL_law_373 dL_law_374 dL_law_375 rfl rfl rfl hLx (by omega) ?_
  refine hC.cl.lawS (st := []) (PS := PS) dL_law_376 lmL_47 mkX8_unpick svX8_unpick rfl (rm_up h1 hR1 hR2) hS rfl (fun _ => rfl) (Nat.le_of_ble_eq_true rfl) rfl hw (fun s2 w2 hs2 hp hw2 => ?_)
  refine hC.cl.aload_n dL_law_379 rfl ?_
  refine hC.num (i := i) (k := 1) dL_law_380 dL_law_381 dL_law_382 dL_law_383 dL_law_384 rfl rfl rfl hLx (by omega) ?_
  refine hC.num (i := i) (k := 2) dL_law_385 dL_law_386 dL_law_387 dL_law_388 dL_law_389 rfl rfl rfl hLx (by omega) ?_
  refine hC.cl.lawM (st := [.int v]) (PM := PM) dL_law_390 lmL_50 mkX9_unpick svX9_unpick rfl (rm_up h2 hR1 hR2) hM rfl (fun _ => rfl) (Nat.le_of_ble_eq_true rfl) rfl hw2 (fun R2 F2 L2 hs3 hq hw3 => ?_)
  exact hC.cl.icmp_eq dL_law_393 (tgt := 997) rfl (fun _ => hn s2 R2 F2 L2 hs3 (hT s2 w2 R2 F2 L2 hp hq) hw3) (fun c => absurd rfl c)
set_option maxHeartbeats 4000000 in
set_option maxRecDepth 20000 in
theorem law_sew (hC : Cs l cL_law RL 4 R0 K Lx xs) (hR1 : 20 ≤ R0.frames) (hR2 : 800 ≤ R0.locals) (hLx : Lx < 2 ^ 31) (hi : i + 4 < Lx) (hF : FR s R F) (hw : LW s R F L hs) (hn : ∀ (s2 : Sf) (R2 : Nat → Nat → Nat) (F2 : Nat → Nat) (L2 : Nat → Int64) (hs2 : List va_E), FR s2 R2 F2 → LW s2 R2 F2 L2 hs2 → K 997 [(0, .ref 500), (1, .ref 0), (2, .ref 45), (3, .int (nI i))] [] hs2) : K 398 [(0, .ref 500), (1, .ref 0), (2, .ref 45), (3, .int (nI i))] [] hs := by
  obtain ⟨v, dS, dM, PS, PM, h1, h2, hS, hM, hT⟩ := two_sew l L hF (xs (i + 1)) (xs (i + 2))
  refine hC.cl.aload_n dL_law_398 rfl ?_
  refine hC.num (i := i) (k := 1) dL_law_399 dL_law_400 dL_law_401 dL_law_402 dL_law_403 rfl rfl rfl hLx (by omega) ?_
  refine hC.num (i := i) (k := 2) dL_law_404 dL_law_405 dL_law_406 dL_law_407 dL_law_408 rfl rfl rfl hLx (by omega) ?_
  refine hC.cl.lawS (st := []) (PS := PS) dL_law_409 lmL_51 mkX8_sew svX8_sew rfl (rm_up h1 hR1 hR2) hS rfl (fun _ => rfl) (Nat.le_of_ble_eq_true rfl) rfl hw (fun s2 w2 hs2 hp hw2 => ?_)
  refine hC.cl.aload_n dL_law_412 rfl ?_
  refine hC.num (i := i) (k := 1) dL_law_413 dL_law_414 dL_law_415 dL_law_416 dL_law_417 rfl rfl rfl hLx (by omega) ?_
  refine hC.num (i := i) (k := 2) dL_law_418 dL_law_419 dL_law_420 dL_law_421 dL_law_422 rfl rfl rfl hLx (by omega) ?_
  refine hC.cl.lawM (st := [.int v]) (PM := PM) dL_law_423 lmL_54 mkX9_sew svX9_sew rfl (rm_up h2 hR1 hR2) hM rfl (fun _ => rfl) (Nat.le_of_ble_eq_true rfl) rfl hw2 (fun R2 F2 L2 hs3 hq hw3 => ?_)
  exact hC.cl.icmp_eq dL_law_426 (tgt := 997) rfl (fun _ => hn s2 R2 F2 L2 hs3 (hT s2 w2 R2 F2 L2 hp hq) hw3) (fun c => absurd rfl c)
set_option maxHeartbeats 4000000 in
set_option maxRecDepth 20000 in
theorem law_hem (hC : Cs l cL_law RL 4 R0 K Lx xs) (hR1 : 20 ≤ R0.frames) (hR2 : 800 ≤ R0.locals) (hLx : Lx < 2 ^ 31) (hi : i + 4 < Lx) (hF : FR s R F) (hw : LW s R F L hs) (hn : ∀ (s2 : Sf) (R2 : Nat → Nat → Nat) (F2 : Nat → Nat) (L2 : Nat → Int64) (hs2 : List va_E), FR s2 R2 F2 → LW s2 R2 F2 L2 hs2 → K 997 [(0, .ref 500), (1, .ref 0), (2, .ref 45), (3, .int (nI i))] [] hs2) : K 431 [(0, .ref 500), (1, .ref 0), (2, .ref 45), (3, .int (nI i))] [] hs := by
  refine hC.cl.aload_n dL_law_431 rfl ?_
  refine hC.num (i := i) (k := 1) dL_law_432 dL_law_433 dL_law_434 dL_law_435 dL_law_436 rfl rfl rfl hLx (by omega) ?_
  refine hC.num (i := i) (k := 2) dL_law_437 dL_law_438 dL_law_439 dL_law_440 dL_law_441 rfl rfl rfl hLx (by omega) ?_
  refine hC.cl.if_eq dL_law_442 (tgt := 449) rfl (fun h0 => ?_) (fun h0 => ?_)
  · refine hC.cl.iconst dL_law_449 (v := nI 0) rfl ?_
    obtain ⟨v, dS, dM, PS, PM, h1, h2, hS, hM, hT⟩ := two_hem l L hF (xs (i + 1)) false
    refine hC.cl.lawS (st := []) (PS := PS) dL_law_450 lmL_55 mkX8_hem svX8_hem rfl (rm_up h1 hR1 hR2) hS rfl (fun _ => rfl) (Nat.le_of_ble_eq_true rfl) rfl hw (fun s2 w2 hs2 hp hw2 => ?_)
    refine hC.cl.aload_n dL_law_453 rfl ?_
    refine hC.num (i := i) (k := 1) dL_law_454 dL_law_455 dL_law_456 dL_law_457 dL_law_458 rfl rfl rfl hLx (by omega) ?_
    refine hC.num (i := i) (k := 2) dL_law_459 dL_law_460 dL_law_461 dL_law_462 dL_law_463 rfl rfl rfl hLx (by omega) ?_
    refine hC.cl.if_eq dL_law_464 (tgt := 471) rfl (fun _ => ?_) (fun h3 => absurd h0 h3)
    refine hC.cl.iconst dL_law_471 (v := nI 0) rfl ?_
    refine hC.cl.lawM (st := [.int v]) (PM := PM) dL_law_472 lmL_59 mkX9_hem svX9_hem rfl (rm_up h2 hR1 hR2) hM rfl (fun _ => rfl) (Nat.le_of_ble_eq_true rfl) rfl hw2 (fun R2 F2 L2 hs3 hq hw3 => ?_)
    exact hC.cl.icmp_eq dL_law_475 (tgt := 997) rfl (fun _ => hn s2 R2 F2 L2 hs3 (hT s2 w2 R2 F2 L2 hp hq) hw3) (fun c => absurd rfl c)
  · refine hC.cl.iconst dL_law_445 (v := nI 1) rfl ?_
    refine hC.cl.goto dL_law_446 (tgt := 450) rfl ?_
    obtain ⟨v, dS, dM, PS, PM, h1, h2, hS, hM, hT⟩ := two_hem l L hF (xs (i + 1)) true
    refine hC.cl.lawS (st := []) (PS := PS) dL_law_450 lmL_55 mkX8_hem svX8_hem rfl (rm_up h1 hR1 hR2) hS rfl (fun _ => rfl) (Nat.le_of_ble_eq_true rfl) rfl hw (fun s2 w2 hs2 hp hw2 => ?_)
    refine hC.cl.aload_n dL_law_453 rfl ?_
    refine hC.num (i := i) (k := 1) dL_law_454 dL_law_455 dL_law_456 dL_law_457 dL_law_458 rfl rfl rfl hLx (by omega) ?_
    refine hC.num (i := i) (k := 2) dL_law_459 dL_law_460 dL_law_461 dL_law_462 dL_law_463 rfl rfl rfl hLx (by omega) ?_
    refine hC.cl.if_eq dL_law_464 (tgt := 471) rfl (fun h3 => absurd h3 h0) (fun _ => ?_)
    refine hC.cl.iconst dL_law_467 (v := nI 1) rfl ?_
    refine hC.cl.goto dL_law_468 (tgt := 472) rfl ?_
    refine hC.cl.lawM (st := [.int v]) (PM := PM) dL_law_472 lmL_59 mkX9_hem svX9_hem rfl (rm_up h2 hR1 hR2) hM rfl (fun _ => rfl) (Nat.le_of_ble_eq_true rfl) rfl hw2 (fun R2 F2 L2 hs3 hq hw3 => ?_)
    exact hC.cl.icmp_eq dL_law_475 (tgt := 997) rfl (fun _ => hn s2 R2 F2 L2 hs3 (hT s2 w2 R2 F2 L2 hp hq) hw3) (fun c => absurd rfl c)
set_option maxHeartbeats 4000000 in
set_option maxRecDepth 20000 in
theorem law_fray (hC : Cs l cL_law RL 4 R0 K Lx xs) (hR1 : 20 ≤ R0.frames) (hR2 : 800 ≤ R0.locals) (hLx : Lx < 2 ^ 31) (hi : i + 4 < Lx) (hF : FR s R F) (hw : LW s R F L hs) (hn : ∀ (s2 : Sf) (R2 : Nat → Nat → Nat) (F2 : Nat → Nat) (L2 : Nat → Int64) (hs2 : List va_E), FR s2 R2 F2 → LW s2 R2 F2 L2 hs2 → K 997 [(0, .ref 500), (1, .ref 0), (2, .ref 45), (3, .int (nI i))] [] hs2) : K 480 [(0, .ref 500), (1, .ref 0), (2, .ref 45), (3, .int (nI i))] [] hs := by
  obtain ⟨v, dS, dM, PS, PM, h1, h2, hS, hM, hT⟩ := two_fray l L hF (xs (i + 1))
  refine hC.cl.aload_n dL_law_480 rfl ?_
  refine hC.num (i := i) (k := 1) dL_law_481 dL_law_482 dL_law_483 dL_law_484 dL_law_485 rfl rfl rfl hLx (by omega) ?_
  refine hC.cl.lawS (st := []) (PS := PS) dL_law_486 lmL_60 mkX8_fray svX8_fray rfl (rm_up h1 hR1 hR2) hS rfl (fun _ => rfl) (Nat.le_of_ble_eq_true rfl) rfl hw (fun s2 w2 hs2 hp hw2 => ?_)
  refine hC.cl.aload_n dL_law_489 rfl ?_
  refine hC.num (i := i) (k := 1) dL_law_490 dL_law_491 dL_law_492 dL_law_493 dL_law_494 rfl rfl rfl hLx (by omega) ?_
  refine hC.cl.lawM (st := [.int v]) (PM := PM) dL_law_495 lmL_63 mkX9_fray svX9_fray rfl (rm_up h2 hR1 hR2) hM rfl (fun _ => rfl) (Nat.le_of_ble_eq_true rfl) rfl hw2 (fun R2 F2 L2 hs3 hq hw3 => ?_)
  exact hC.cl.icmp_eq dL_law_498 (tgt := 997) rfl (fun _ => hn s2 R2 F2 L2 hs3 (hT s2 w2 R2 F2 L2 hp hq) hw3) (fun c => absurd rfl c)
set_option maxHeartbeats 4000000 in
set_option maxRecDepth 20000 in
theorem law_dye (hC : Cs l cL_law RL 4 R0 K Lx xs) (hR1 : 20 ≤ R0.frames) (hR2 : 800 ≤ R0.locals) (hLx : Lx < 2 ^ 31) (hi : i + 4 < Lx) (hF : FR s R F) (hw : LW s R F L hs) (hn : ∀ (s2 : Sf) (R2 : Nat → Nat → Nat) (F2 : Nat → Nat) (L2 : Nat → Int64) (hs2 : List va_E), FR s2 R2 F2 → LW s2 R2 F2 L2 hs2 → K 997 [(0, .ref 500), (1, .ref 0), (2, .ref 45), (3, .int (nI i))] [] hs2) : K 503 [(0, .ref 500), (1, .ref 0), (2, .ref 45), (3, .int (nI i))] [] hs := by
  obtain ⟨v, dS, dM, PS, PM, h1, h2, hS, hM, hT⟩ := two_dye l L hF (xs (i + 1)) (xs (i + 2))
  refine hC.cl.aload_n dL_law_503 rfl ?_
  refine hC.num (i := i) (k := 1) dL_law_504 dL_law_505 dL_law_506 dL_law_507 dL_law_508 rfl rfl rfl hLx (by omega) ?_
  refine hC.num (i := i) (k := 2) dL_law_509 dL_law_510 dL_law_511 dL_law_512 dL_law_513 rfl rfl rfl hLx (by omega) ?_
  refine hC.cl.lawS (st := []) (PS := PS) dL_law_514 lmL_64 mkX8_dye svX8_dye rfl (rm_up h1 hR1 hR2) hS rfl (fun _ => rfl) (Nat.le_of_ble_eq_true rfl) rfl hw (fun s2 w2 hs2 hp hw2 => ?_)
  refine hC.cl.aload_n dL_law_517 rfl ?_
  refine hC.num (i := i) (k := 1) dL_law_518 dL_law_519 dL_law_520 dL_law_521 dL_law_522 rfl rfl rfl hLx (by omega) ?_
  refine hC.num (i := i) (k := 2) dL_law_523 dL_law_524 dL_law_525 dL_law_526 dL_law_527 rfl rfl rfl hLx (by omega) ?_
  refine hC.cl.lawM (st := [.int v]) (PM := PM) dL_law_528 lmL_67 mkX9_dye svX9_dye rfl (rm_up h2 hR1 hR2) hM rfl (fun _ => rfl) (Nat.le_of_ble_eq_true rfl) rfl hw2 (fun R2 F2 L2 hs3 hq hw3 => ?_)
  exact hC.cl.icmp_eq dL_law_531 (tgt := 997) rfl (fun _ => hn s2 R2 F2 L2 hs3 (hT s2 w2 R2 F2 L2 hp hq) hw3) (fun c => absurd rfl c)
set_option maxHeartbeats 4000000 in
set_option maxRecDepth 20000 in
theorem law_drift (hC : Cs l cL_law RL 4 R0 K Lx xs) (hR1 : 20 ≤ R0.frames) (hR2 : 800 ≤ R0.locals) (hLx : Lx < 2 ^ 31) (hi : i + 4 < Lx) (hF : FR s R F) (hw : LW s R F L hs) (hn : ∀ (s2 : Sf) (R2 : Nat → Nat → Nat) (F2 : Nat → Nat) (L2 : Nat → Int64) (hs2 : List va_E), FR s2 R2 F2 → LW s2 R2 F2 L2 hs2 → K 997 [(0, .ref 500), (1, .ref 0), (2, .ref 45), (3, .int (nI i))] [] hs2) : K 536 [(0, .ref 500), (1, .ref 0), (2, .ref 45), (3, .int (nI i))] [] hs := by
  obtain ⟨v, dS, dM, PS, PM, h1, h2, hS, hM, hT⟩ := two_drift l L hF (xs (i + 1))
  refine hC.cl.aload_n dL_law_536 rfl ?_
  refine hC.num (i := i) (k := 1) dL_law_537 dL_law_538 dL_law_539 dL_law_540 dL_law_541 rfl rfl rfl hLx (by omega) ?_
  refine hC.cl.lawS (st := []) (PS := PS) dL_law_542 lmL_68 mkX8_drift svX8_drift rfl (rm_up h1 hR1 hR2) hS rfl (fun _ => rfl) (Nat.le_of_ble_eq_true rfl) rfl hw (fun s2 w2 hs2 hp hw2 => ?_)
  refine hC.cl.aload_n dL_law_545 rfl ?_
  refine hC.num (i := i) (k := 1) dL_law_546 dL_law_547 dL_law_548 dL_law_549 dL_law_550 rfl rfl rfl hLx (by omega) ?_
  refine hC.cl.lawM (st := [.int v]) (PM := PM) dL_law_551 lmL_71 mkX9_drift svX9_drift rfl (rm_up h2 hR1 hR2) hM rfl (fun _ => rfl) (Nat.le_of_ble_eq_true rfl) rfl hw2 (fun R2 F2 L2 hs3 hq hw3 => ?_)
  exact hC.cl.icmp_eq dL_law_554 (tgt := 997) rfl (fun _ => hn s2 R2 F2 L2 hs3 (hT s2 w2 R2 F2 L2 hp hq) hw3) (fun c => absurd rfl c)
set_option maxHeartbeats 4000000 in
set_option maxRecDepth 20000 in
theorem law_cut (hC : Cs l cL_law RL 4 R0 K Lx xs) (hR1 : 20 ≤ R0.frames) (hR2 : 800 ≤ R0.locals) (hLx : Lx < 2 ^ 31) (hi : i + 4 < Lx) (hF : FR s R F) (hw : LW s R F L hs) (hn : ∀ (s2 : Sf) (R2 : Nat → Nat → Nat) (F2 : Nat → Nat) (L2 : Nat → Int64) (hs2 : List va_E), FR s2 R2 F2 → LW s2 R2 F2 L2 hs2 → K 997 [(0, .ref 500), (1, .ref 0), (2, .ref 45), (3, .int (nI i))] [] hs2) : K 559 [(0, .ref 500), (1, .ref 0), (2, .ref 45), (3, .int (nI i))] [] hs := by
  obtain ⟨v, dS, dM, PS, PM, h1, h2, hS, hM, hT⟩ := two_cut l L hF (xs (i + 1)) (xs (i + 2))
  refine hC.cl.aload_n dL_law_559 rfl ?_
  refine hC.num (i := i) (k := 1) dL_law_560 dL_law_561 dL_law_562 dL_law_563 dL_law_564 rfl rfl rfl hLx (by omega) ?_
  refine hC.num (i := i) (k := 2) dL_law_565 dL_law_566 dL_law_567 dL_law_568 dL_law_569 rfl rfl rfl hLx (by omega) ?_
  refine hC.cl.lawS (st := []) (PS := PS) dL_law_570 lmL_72 mkX8_cut svX8_cut rfl (rm_up h1 hR1 hR2) hS rfl (fun _ => rfl) (Nat.le_of_ble_eq_true rfl) rfl hw (fun s2 w2 hs2 hp hw2 => ?_)
  refine hC.cl.aload_n dL_law_573 rfl ?_
  refine hC.num (i := i) (k := 1) dL_law_574 dL_law_575 dL_law_576 dL_law_577 dL_law_578 rfl rfl rfl hLx (by omega) ?_
  refine hC.num (i := i) (k := 2) dL_law_579 dL_law_580 dL_law_581 dL_law_582 dL_law_583 rfl rfl rfl hLx (by omega) ?_
  refine hC.cl.lawM (st := [.int v]) (PM := PM) dL_law_584 lmL_75 mkX9_cut svX9_cut rfl (rm_up h2 hR1 hR2) hM rfl (fun _ => rfl) (Nat.le_of_ble_eq_true rfl) rfl hw2 (fun R2 F2 L2 hs3 hq hw3 => ?_)
  exact hC.cl.icmp_eq dL_law_587 (tgt := 997) rfl (fun _ => hn s2 R2 F2 L2 hs3 (hT s2 w2 R2 F2 L2 hp hq) hw3) (fun c => absurd rfl c)
set_option maxHeartbeats 4000000 in
set_option maxRecDepth 20000 in
theorem law_lasts (hC : Cs l cL_law RL 4 R0 K Lx xs) (hR1 : 20 ≤ R0.frames) (hR2 : 800 ≤ R0.locals) (hLx : Lx < 2 ^ 31) (hi : i + 4 < Lx) (hF : FR s R F) (hw : LW s R F L hs) (hn : ∀ (s2 : Sf) (R2 : Nat → Nat → Nat) (F2 : Nat → Nat) (L2 : Nat → Int64) (hs2 : List va_E), FR s2 R2 F2 → LW s2 R2 F2 L2 hs2 → K 997 [(0, .ref 500), (1, .ref 0), (2, .ref 45), (3, .int (nI i))] [] hs2) : K 592 [(0, .ref 500), (1, .ref 0), (2, .ref 45), (3, .int (nI i))] [] hs := by
  obtain ⟨v, dS, dM, PS, PM, h1, h2, hS, hM, hT⟩ := two_lasts l L hF (xs (i + 1)) (xs (i + 2))
  refine hC.cl.aload_n dL_law_592 rfl ?_
  refine hC.num (i := i) (k := 1) dL_law_593 dL_law_594 dL_law_595 dL_law_596 dL_law_597 rfl rfl rfl hLx (by omega) ?_
  refine hC.num (i := i) (k := 2) dL_law_598 dL_law_599 dL_law_600 dL_law_601 dL_law_602 rfl rfl rfl hLx (by omega) ?_
  refine hC.cl.lawS (st := []) (PS := PS) dL_law_603 lmL_76 mkX8_lasts svX8_lasts rfl (rm_up h1 hR1 hR2) hS rfl (fun _ => rfl) (Nat.le_of_ble_eq_true rfl) rfl hw (fun s2 w2 hs2 hp hw2 => ?_)
  refine hC.cl.aload_n dL_law_606 rfl ?_
  refine hC.num (i := i) (k := 1) dL_law_607 dL_law_608 dL_law_609 dL_law_610 dL_law_611 rfl rfl rfl hLx (by omega) ?_
  refine hC.num (i := i) (k := 2) dL_law_612 dL_law_613 dL_law_614 dL_law_615 dL_law_616 rfl rfl rfl hLx (by omega) ?_
  refine hC.cl.lawM (st := [.int v]) (PM := PM) dL_law_617 lmL_79 mkX9_lasts svX9_lasts rfl (rm_up h2 hR1 hR2) hM rfl (fun _ => rfl) (Nat.le_of_ble_eq_true rfl) rfl hw2 (fun R2 F2 L2 hs3 hq hw3 => ?_)
  exact hC.cl.icmp_eq dL_law_620 (tgt := 997) rfl (fun _ => hn s2 R2 F2 L2 hs3 (hT s2 w2 R2 F2 L2 hp hq) hw3) (fun c => absurd rfl c)
set_option maxHeartbeats 4000000 in
set_option maxRecDepth 20000 in
theorem law_hems (hC : Cs l cL_law RL 4 R0 K Lx xs) (hR1 : 20 ≤ R0.frames) (hR2 : 800 ≤ R0.locals) (hLx : Lx < 2 ^ 31) (hi : i + 4 < Lx) (hF : FR s R F) (hw : LW s R F L hs) (hn : ∀ (s2 : Sf) (R2 : Nat → Nat → Nat) (F2 : Nat → Nat) (L2 : Nat → Int64) (hs2 : List va_E), FR s2 R2 F2 → LW s2 R2 F2 L2 hs2 → K 997 [(0, .ref 500), (1, .ref 0), (2, .ref 45), (3, .int (nI i))] [] hs2) : K 625 [(0, .ref 500), (1, .ref 0), (2, .ref 45), (3, .int (nI i))] [] hs := by
  obtain ⟨v, dS, dM, PS, PM, h1, h2, hS, hM, hT⟩ := two_hems l L hF (xs (i + 1)) (xs (i + 2))
  refine hC.cl.aload_n dL_law_625 rfl ?_
  refine hC.num (i := i) (k := 1) dL_law_626 dL_law_627 dL_law_628 dL_law_629 dL_law_630 rfl rfl rfl hLx (by omega) ?_
  refine hC.num (i := i) (k := 2) dL_law_631 dL_law_632 dL_law_633 dL_law_634 dL_law_635 rfl rfl rfl hLx (by omega) ?_
  refine hC.cl.lawS (st := []) (PS := PS) dL_law_636 lmL_80 mkX8_hems svX8_hems rfl (rm_up h1 hR1 hR2) hS rfl (fun _ => rfl) (Nat.le_of_ble_eq_true rfl) rfl hw (fun s2 w2 hs2 hp hw2 => ?_)
  refine hC.cl.aload_n dL_law_639 rfl ?_
  refine hC.num (i := i) (k := 1) dL_law_640 dL_law_641 dL_law_642 dL_law_643 dL_law_644 rfl rfl rfl hLx (by omega) ?_
  refine hC.num (i := i) (k := 2) dL_law_645 dL_law_646 dL_law_647 dL_law_648 dL_law_649 rfl rfl rfl hLx (by omega) ?_
  refine hC.cl.lawM (st := [.int v]) (PM := PM) dL_law_650 lmL_83 mkX9_hems svX9_hems rfl (rm_up h2 hR1 hR2) hM rfl (fun _ => rfl) (Nat.le_of_ble_eq_true rfl) rfl hw2 (fun R2 F2 L2 hs3 hq hw3 => ?_)
  exact hC.cl.icmp_eq dL_law_653 (tgt := 997) rfl (fun _ => hn s2 R2 F2 L2 hs3 (hT s2 w2 R2 F2 L2 hp hq) hw3) (fun c => absurd rfl c)
set_option maxHeartbeats 4000000 in
set_option maxRecDepth 20000 in
theorem law_thread (hC : Cs l cL_law RL 4 R0 K Lx xs) (hR1 : 20 ≤ R0.frames) (hR2 : 800 ≤ R0.locals) (hLx : Lx < 2 ^ 31) (hi : i + 4 < Lx) (hF : FR s R F) (hw : LW s R F L hs) (hn : ∀ (s2 : Sf) (R2 : Nat → Nat → Nat) (F2 : Nat → Nat) (L2 : Nat → Int64) (hs2 : List va_E), FR s2 R2 F2 → LW s2 R2 F2 L2 hs2 → K 997 [(0, .ref 500), (1, .ref 0), (2, .ref 45), (3, .int (nI i))] [] hs2) : K 658 [(0, .ref 500), (1, .ref 0), (2, .ref 45), (3, .int (nI i))] [] hs := by
  obtain ⟨v, dS, dM, PS, PM, h1, h2, hS, hM, hT⟩ := two_thread l L hF (xs (i + 1)) (xs (i + 2))
  refine hC.cl.aload_n dL_law_658 rfl ?_
  refine hC.num (i := i) (k := 1) dL_law_659 dL_law_660 dL_law_661 dL_law_662 dL_law_663 rfl rfl rfl hLx (by omega) ?_
  refine hC.num (i := i) (k := 2) dL_law_664 dL_law_665 dL_law_666 dL_law_667 dL_law_668 rfl rfl rfl hLx (by omega) ?_
  refine hC.cl.lawS (st := []) (PS := PS) dL_law_669 lmL_84 mkX8_thread svX8_thread rfl (rm_up h1 hR1 hR2) hS rfl (fun _ => rfl) (Nat.le_of_ble_eq_true rfl) rfl hw (fun s2 w2 hs2 hp hw2 => ?_)
  refine hC.cl.aload_n dL_law_672 rfl ?_
  refine hC.num (i := i) (k := 1) dL_law_673 dL_law_674 dL_law_675 dL_law_676 dL_law_677 rfl rfl rfl hLx (by omega) ?_
  refine hC.num (i := i) (k := 2) dL_law_678 dL_law_679 dL_law_680 dL_law_681 dL_law_682 rfl rfl rfl hLx (by omega) ?_
  refine hC.cl.lawM (st := [.int v]) (PM := PM) dL_law_683 lmL_87 mkX9_thread svX9_thread rfl (rm_up h2 hR1 hR2) hM rfl (fun _ => rfl) (Nat.le_of_ble_eq_true rfl) rfl hw2 (fun R2 F2 L2 hs3 hq hw3 => ?_)
  exact hC.cl.icmp_eq dL_law_686 (tgt := 997) rfl (fun _ => hn s2 R2 F2 L2 hs3 (hT s2 w2 R2 F2 L2 hp hq) hw3) (fun c => absurd rfl c)
set_option maxHeartbeats 4000000 in
set_option maxRecDepth 20000 in
theorem law_odds (hC : Cs l cL_law RL 4 R0 K Lx xs) (hR1 : 20 ≤ R0.frames) (hR2 : 800 ≤ R0.locals) (hLx : Lx < 2 ^ 31) (hi : i + 4 < Lx) (hF : FR s R F) (hw : LW s R F L hs) (hn : ∀ (s2 : Sf) (R2 : Nat → Nat → Nat) (F2 : Nat → Nat) (L2 : Nat → Int64) (hs2 : List va_E), FR s2 R2 F2 → LW s2 R2 F2 L2 hs2 → K 997 [(0, .ref 500), (1, .ref 0), (2, .ref 45), (3, .int (nI i))] [] hs2) : K 691 [(0, .ref 500), (1, .ref 0), (2, .ref 45), (3, .int (nI i))] [] hs := by
  obtain ⟨v, dS, dM, PS, PM, h1, h2, hS, hM, hT⟩ := two_odds l L hF (xs (i + 1)) (xs (i + 2))
  refine hC.cl.aload_n dL_law_691 rfl ?_
  refine hC.num (i := i) (k := 1) dL_law_692 dL_law_693 dL_law_694 dL_law_695 dL_law_696 rfl rfl rfl hLx (by omega) ?_
  refine hC.num (i := i) (k := 2) dL_law_697 dL_law_698 dL_law_699 dL_law_700 dL_law_701 rfl rfl rfl hLx (by omega) ?_
  refine hC.cl.lawS (st := []) (PS := PS) dL_law_702 lmL_88 mkX8_odds svX8_odds rfl (rm_up h1 hR1 hR2) hS rfl (fun _ => rfl) (Nat.le_of_ble_eq_true rfl) rfl hw (fun s2 w2 hs2 hp hw2 => ?_)
  refine hC.cl.aload_n dL_law_705 rfl ?_
  refine hC.num (i := i) (k := 1) dL_law_706 dL_law_707 dL_law_708 dL_law_709 dL_law_710 rfl rfl rfl hLx (by omega) ?_
  refine hC.num (i := i) (k := 2) dL_law_711 dL_law_712 dL_law_713 dL_law_714 dL_law_715 rfl rfl rfl hLx (by omega) ?_
  refine hC.cl.lawM (st := [.int v]) (PM := PM) dL_law_716 lmL_91 mkX9_odds svX9_odds rfl (rm_up h2 hR1 hR2) hM rfl (fun _ => rfl) (Nat.le_of_ble_eq_true rfl) rfl hw2 (fun R2 F2 L2 hs3 hq hw3 => ?_)
  exact hC.cl.icmp_eq dL_law_719 (tgt := 997) rfl (fun _ => hn s2 R2 F2 L2 hs3 (hT s2 w2 R2 F2 L2 hp hq) hw3) (fun c => absurd rfl c)
set_option maxHeartbeats 4000000 in
set_option maxRecDepth 20000 in
theorem law_turnsOf (hC : Cs l cL_law RL 4 R0 K Lx xs) (hR1 : 20 ≤ R0.frames) (hR2 : 800 ≤ R0.locals) (hLx : Lx < 2 ^ 31) (hi : i + 4 < Lx) (hF : FR s R F) (hw : LW s R F L hs) (hn : ∀ (s2 : Sf) (R2 : Nat → Nat → Nat) (F2 : Nat → Nat) (L2 : Nat → Int64) (hs2 : List va_E), FR s2 R2 F2 → LW s2 R2 F2 L2 hs2 → K 997 [(0, .ref 500), (1, .ref 0), (2, .ref 45), (3, .int (nI i))] [] hs2) : K 724 [(0, .ref 500), (1, .ref 0), (2, .ref 45), (3, .int (nI i))] [] hs := by
  obtain ⟨v, dS, dM, PS, PM, h1, h2, hS, hM, hT⟩ := two_turnsOf l L hF (xs (i + 1)) (xs (i + 2)) (xs (i + 3)) (xs (i + 4))
  refine hC.cl.aload_n dL_law_724 rfl ?_
  refine hC.num (i := i) (k := 1) dL_law_725 dL_law_726 dL_law_727 dL_law_728 dL_law_729 rfl rfl rfl hLx (by omega) ?_
  refine hC.num (i := i) (k := 2) dL_law_730 dL_law_731 dL_law_732 dL_law_733 dL_law_734 rfl rfl rfl hLx (by omega) ?_
  refine hC.num (i := i) (k := 3) dL_law_735 dL_law_736 dL_law_737 dL_law_738 dL_law_739 rfl rfl rfl hLx (by omega) ?_
  refine hC.num (i := i) (k := 4) dL_law_740 dL_law_741 dL_law_742 dL_law_743 dL_law_744 rfl rfl rfl hLx (by omega) ?_
  refine hC.cl.lawS (st := []) (PS := PS) dL_law_745 lmL_92 mkX8_turnsOf svX8_turnsOf rfl (rm_up h1 hR1 hR2) hS rfl (fun _ => rfl) (Nat.le_of_ble_eq_true rfl) rfl hw (fun s2 w2 hs2 hp hw2 => ?_)
  refine hC.cl.aload_n dL_law_748 rfl ?_
  refine hC.num (i := i) (k := 1) dL_law_749 dL_law_750 dL_law_751 dL_law_752 dL_law_753 rfl rfl rfl hLx (by omega) ?_
  refine hC.num (i := i) (k := 2) dL_law_754 dL_law_755 dL_law_756 dL_law_757 dL_law_758 rfl rfl rfl hLx (by omega) ?_
  refine hC.num (i := i) (k := 3) dL_law_759 dL_law_760 dL_law_761 dL_law_762 dL_law_763 rfl rfl rfl hLx (by omega) ?_
  refine hC.num (i := i) (k := 4) dL_law_764 dL_law_765 dL_law_766 dL_law_767 dL_law_768 rfl rfl rfl hLx (by omega) ?_
  refine hC.cl.lawM (st := [.int v]) (PM := PM) dL_law_769 lmL_96 mkX9_turnsOf svX9_turnsOf rfl (rm_up h2 hR1 hR2) hM rfl (fun _ => rfl) (Nat.le_of_ble_eq_true rfl) rfl hw2 (fun R2 F2 L2 hs3 hq hw3 => ?_)
  exact hC.cl.icmp_eq dL_law_772 (tgt := 997) rfl (fun _ => hn s2 R2 F2 L2 hs3 (hT s2 w2 R2 F2 L2 hp hq) hw3) (fun c => absurd rfl c)
set_option maxHeartbeats 4000000 in
set_option maxRecDepth 20000 in
theorem law_colours (hC : Cs l cL_law RL 4 R0 K Lx xs) (hR1 : 20 ≤ R0.frames) (hR2 : 800 ≤ R0.locals) (hLx : Lx < 2 ^ 31) (hi : i + 4 < Lx) (hF : FR s R F) (hw : LW s R F L hs) (hn : ∀ (s2 : Sf) (R2 : Nat → Nat → Nat) (F2 : Nat → Nat) (L2 : Nat → Int64) (hs2 : List va_E), FR s2 R2 F2 → LW s2 R2 F2 L2 hs2 → K 997 [(0, .ref 500), (1, .ref 0), (2, .ref 45), (3, .int (nI i))] [] hs2) : K 777 [(0, .ref 500), (1, .ref 0), (2, .ref 45), (3, .int (nI i))] [] hs := by
  obtain ⟨v, dS, dM, PS, PM, h1, h2, hS, hM, hT⟩ := two_colours l L hF (xs (i + 1))
  refine hC.cl.aload_n dL_law_777 rfl ?_
  refine hC.num (i := i) (k := 1) dL_law_778 dL_law_779 dL_law_780 dL_law_781 dL_law_782 rfl rfl rfl hLx (by omega) ?_
  refine hC.cl.lawS (st := []) (PS := PS) dL_law_783 lmL_97 mkX8_colours svX8_colours rfl (rm_up h1 hR1 hR2) hS rfl (fun _ => rfl) (Nat.le_of_ble_eq_true rfl) rfl hw (fun s2 w2 hs2 hp hw2 => ?_)
  refine hC.cl.aload_n dL_law_786 rfl ?_
  refine hC.num (i := i) (k := 1) dL_law_787 dL_law_788 dL_law_789 dL_law_790 dL_law_791 rfl rfl rfl hLx (by omega) ?_
  refine hC.cl.lawM (st := [.int v]) (PM := PM) dL_law_792 lmL_100 mkX9_colours svX9_colours rfl (rm_up h2 hR1 hR2) hM rfl (fun _ => rfl) (Nat.le_of_ble_eq_true rfl) rfl hw2 (fun R2 F2 L2 hs3 hq hw3 => ?_)
  exact hC.cl.icmp_eq dL_law_795 (tgt := 997) rfl (fun _ => hn s2 R2 F2 L2 hs3 (hT s2 w2 R2 F2 L2 hp hq) hw3) (fun c => absurd rfl c)
set_option maxHeartbeats 4000000 in
set_option maxRecDepth 20000 in
theorem law_left (hC : Cs l cL_law RL 4 R0 K Lx xs) (hR1 : 20 ≤ R0.frames) (hR2 : 800 ≤ R0.locals) (hLx : Lx < 2 ^ 31) (hi : i + 4 < Lx) (hF : FR s R F) (hw : LW s R F L hs) (hn : ∀ (s2 : Sf) (R2 : Nat → Nat → Nat) (F2 : Nat → Nat) (L2 : Nat → Int64) (hs2 : List va_E), FR s2 R2 F2 → LW s2 R2 F2 L2 hs2 → K 997 [(0, .ref 500), (1, .ref 0), (2, .ref 45), (3, .int (nI i))] [] hs2) : K 800 [(0, .ref 500), (1, .ref 0), (2, .ref 45), (3, .int (nI i))] [] hs := by
  obtain ⟨v, dS, dM, PS, PM, h1, h2, hS, hM, hT⟩ := two_left l L hF (xs (i + 1)) (xs (i + 2))
  refine hC.cl.aload_n dL_law_800 rfl ?_
  refine hC.num (i := i) (k := 1) dL_law_801 dL_law_802 dL_law_803 dL_law_804 dL_law_805 rfl rfl rfl hLx (by omega) ?_
  refine hC.num (i := i) (k := 2) dL_law_806 dL_law_807 dL_law_808 dL_law_809 dL_law_810 rfl rfl rfl hLx (by omega) ?_
  refine hC.cl.lawS (st := []) (PS := PS) dL_law_811 lmL_101 mkX8_left svX8_left rfl (rm_up h1 hR1 hR2) hS rfl (fun _ => rfl) (Nat.le_of_ble_eq_true rfl) rfl hw (fun s2 w2 hs2 hp hw2 => ?_)
  refine hC.cl.aload_n dL_law_814 rfl ?_
  refine hC.num (i := i) (k := 1) dL_law_815 dL_law_816 dL_law_817 dL_law_818 dL_law_819 rfl rfl rfl hLx (by omega) ?_
  refine hC.num (i := i) (k := 2) dL_law_820 dL_law_821 dL_law_822 dL_law_823 dL_law_824 rfl rfl rfl hLx (by omega) ?_
  refine hC.cl.lawM (st := [.int v]) (PM := PM) dL_law_825 lmL_104 mkX9_left svX9_left rfl (rm_up h2 hR1 hR2) hM rfl (fun _ => rfl) (Nat.le_of_ble_eq_true rfl) rfl hw2 (fun R2 F2 L2 hs3 hq hw3 => ?_)
  exact hC.cl.icmp_eq dL_law_828 (tgt := 997) rfl (fun _ => hn s2 R2 F2 L2 hs3 (hT s2 w2 R2 F2 L2 hp hq) hw3) (fun c => absurd rfl c)
set_option maxHeartbeats 4000000 in
set_option maxRecDepth 20000 in
theorem law_fits (hC : Cs l cL_law RL 4 R0 K Lx xs) (hR1 : 20 ≤ R0.frames) (hR2 : 800 ≤ R0.locals) (hLx : Lx < 2 ^ 31) (hi : i + 4 < Lx) (hF : FR s R F) (hw : LW s R F L hs) (hn : ∀ (s2 : Sf) (R2 : Nat → Nat → Nat) (F2 : Nat → Nat) (L2 : Nat → Int64) (hs2 : List va_E), FR s2 R2 F2 → LW s2 R2 F2 L2 hs2 → K 997 [(0, .ref 500), (1, .ref 0), (2, .ref 45), (3, .int (nI i))] [] hs2) : K 833 [(0, .ref 500), (1, .ref 0), (2, .ref 45), (3, .int (nI i))] [] hs := by
  obtain ⟨v, dS, dM, PS, PM, h1, h2, hS, hM, hT⟩ := two_fits l L hF
  refine hC.cl.aload_n dL_law_833 rfl ?_
  refine hC.cl.lawS (st := []) (PS := PS) dL_law_834 lmL_105 mkX8_fits svX8_fits rfl (rm_up h1 hR1 hR2) hS rfl (fun _ => rfl) (Nat.le_of_ble_eq_true rfl) rfl hw (fun s2 w2 hs2 hp hw2 => ?_)
  refine hC.cl.aload_n dL_law_837 rfl ?_
  refine hC.cl.lawM (st := [.int v]) (PM := PM) dL_law_838 lmL_108 mkX9_fits svX9_fits rfl (rm_up h2 hR1 hR2) hM rfl (fun _ => rfl) (Nat.le_of_ble_eq_true rfl) rfl hw2 (fun R2 F2 L2 hs3 hq hw3 => ?_)
  exact hC.cl.icmp_eq dL_law_841 (tgt := 997) rfl (fun _ => hn s2 R2 F2 L2 hs3 (hT s2 w2 R2 F2 L2 hp hq) hw3) (fun c => absurd rfl c)
set_option maxHeartbeats 4000000 in
set_option maxRecDepth 20000 in
theorem law_sure (hC : Cs l cL_law RL 4 R0 K Lx xs) (hR1 : 20 ≤ R0.frames) (hR2 : 800 ≤ R0.locals) (hLx : Lx < 2 ^ 31) (hi : i + 4 < Lx) (hF : FR s R F) (hw : LW s R F L hs) (hn : ∀ (s2 : Sf) (R2 : Nat → Nat → Nat) (F2 : Nat → Nat) (L2 : Nat → Int64) (hs2 : List va_E), FR s2 R2 F2 → LW s2 R2 F2 L2 hs2 → K 997 [(0, .ref 500), (1, .ref 0), (2, .ref 45), (3, .int (nI i))] [] hs2) : K 846 [(0, .ref 500), (1, .ref 0), (2, .ref 45), (3, .int (nI i))] [] hs := by
  obtain ⟨v, dS, dM, PS, PM, h1, h2, hS, hM, hT⟩ := two_sure l L hF (xs (i + 1))
  refine hC.cl.aload_n dL_law_846 rfl ?_
  refine hC.num (i := i) (k := 1) dL_law_847 dL_law_848 dL_law_849 dL_law_850 dL_law_851 rfl rfl rfl hLx (by omega) ?_
  refine hC.cl.lawS (st := []) (PS := PS) dL_law_852 lmL_109 mkX8_sure svX8_sure rfl (rm_up h1 hR1 hR2) hS rfl (fun _ => rfl) (Nat.le_of_ble_eq_true rfl) rfl hw (fun s2 w2 hs2 hp hw2 => ?_)
  refine hC.cl.aload_n dL_law_855 rfl ?_
  refine hC.num (i := i) (k := 1) dL_law_856 dL_law_857 dL_law_858 dL_law_859 dL_law_860 rfl rfl rfl hLx (by omega) ?_
  refine hC.cl.lawM (st := [.int v]) (PM := PM) dL_law_861 lmL_112 mkX9_sure svX9_sure rfl (rm_up h2 hR1 hR2) hM rfl (fun _ => rfl) (Nat.le_of_ble_eq_true rfl) rfl hw2 (fun R2 F2 L2 hs3 hq hw3 => ?_)
  exact hC.cl.icmp_eq dL_law_864 (tgt := 997) rfl (fun _ => hn s2 R2 F2 L2 hs3 (hT s2 w2 R2 F2 L2 hp hq) hw3) (fun c => absurd rfl c)
set_option maxHeartbeats 4000000 in
set_option maxRecDepth 20000 in
theorem law_write (hC : Cs l cL_law RL 4 R0 K Lx xs) (hR1 : 20 ≤ R0.frames) (hR2 : 800 ≤ R0.locals) (hLx : Lx < 2 ^ 31) (hi : i + 4 < Lx) (hF : FR s R F) (hw : LW s R F L hs) (hn : ∀ (s2 : Sf) (R2 : Nat → Nat → Nat) (F2 : Nat → Nat) (L2 : Nat → Int64) (hs2 : List va_E), FR s2 R2 F2 → LW s2 R2 F2 L2 hs2 → K 997 [(0, .ref 500), (1, .ref 0), (2, .ref 45), (3, .int (nI i))] [] hs2) : K 869 [(0, .ref 500), (1, .ref 0), (2, .ref 45), (3, .int (nI i))] [] hs := by
  obtain ⟨v, dS, dM, PS, PM, h1, h2, hS, hM, hT⟩ := two_write l L hF (xs (i + 1)) (xs (i + 2))
  refine hC.cl.aload_n dL_law_869 rfl ?_
  refine hC.num (i := i) (k := 1) dL_law_870 dL_law_871 dL_law_872 dL_law_873 dL_law_874 rfl rfl rfl hLx (by omega) ?_
  refine hC.num (i := i) (k := 2) dL_law_875 dL_law_876 dL_law_877 dL_law_878 dL_law_879 rfl rfl rfl hLx (by omega) ?_
  refine hC.cl.lawS (st := []) (PS := PS) dL_law_880 lmL_113 mkX8_write svX8_write rfl (rm_up h1 hR1 hR2) hS rfl (fun _ => rfl) (Nat.le_of_ble_eq_true rfl) rfl hw (fun s2 w2 hs2 hp hw2 => ?_)
  refine hC.cl.aload_n dL_law_883 rfl ?_
  refine hC.num (i := i) (k := 1) dL_law_884 dL_law_885 dL_law_886 dL_law_887 dL_law_888 rfl rfl rfl hLx (by omega) ?_
  refine hC.num (i := i) (k := 2) dL_law_889 dL_law_890 dL_law_891 dL_law_892 dL_law_893 rfl rfl rfl hLx (by omega) ?_
  refine hC.cl.lawM (st := [.int v]) (PM := PM) dL_law_894 lmL_116 mkX9_write svX9_write rfl (rm_up h2 hR1 hR2) hM rfl (fun _ => rfl) (Nat.le_of_ble_eq_true rfl) rfl hw2 (fun R2 F2 L2 hs3 hq hw3 => ?_)
  exact hC.cl.icmp_eq dL_law_897 (tgt := 997) rfl (fun _ => hn s2 R2 F2 L2 hs3 (hT s2 w2 R2 F2 L2 hp hq) hw3) (fun c => absurd rfl c)
set_option maxHeartbeats 4000000 in
set_option maxRecDepth 20000 in
theorem law_tear (hC : Cs l cL_law RL 4 R0 K Lx xs) (hR1 : 20 ≤ R0.frames) (hR2 : 800 ≤ R0.locals) (hLx : Lx < 2 ^ 31) (hi : i + 4 < Lx) (hF : FR s R F) (hw : LW s R F L hs) (hn : ∀ (s2 : Sf) (R2 : Nat → Nat → Nat) (F2 : Nat → Nat) (L2 : Nat → Int64) (hs2 : List va_E), FR s2 R2 F2 → LW s2 R2 F2 L2 hs2 → K 997 [(0, .ref 500), (1, .ref 0), (2, .ref 45), (3, .int (nI i))] [] hs2) : K 902 [(0, .ref 500), (1, .ref 0), (2, .ref 45), (3, .int (nI i))] [] hs := by
  obtain ⟨v, dS, dM, PS, PM, h1, h2, hS, hM, hT⟩ := two_tear l L hF
  refine hC.cl.aload_n dL_law_902 rfl ?_
  refine hC.cl.lawS (st := []) (PS := PS) dL_law_903 lmL_117 mkX8_tear svX8_tear rfl (rm_up h1 hR1 hR2) hS rfl (fun _ => rfl) (Nat.le_of_ble_eq_true rfl) rfl hw (fun s2 w2 hs2 hp hw2 => ?_)
  refine hC.cl.aload_n dL_law_906 rfl ?_
  refine hC.cl.lawM (st := [.int v]) (PM := PM) dL_law_907 lmL_120 mkX9_tear svX9_tear rfl (rm_up h2 hR1 hR2) hM rfl (fun _ => rfl) (Nat.le_of_ble_eq_true rfl) rfl hw2 (fun R2 F2 L2 hs3 hq hw3 => ?_)
  exact hC.cl.icmp_eq dL_law_910 (tgt := 997) rfl (fun _ => hn s2 R2 F2 L2 hs3 (hT s2 w2 R2 F2 L2 hp hq) hw3) (fun c => absurd rfl c)
set_option maxHeartbeats 4000000 in
set_option maxRecDepth 20000 in
theorem law_judge (hC : Cs l cL_law RL 4 R0 K Lx xs) (hR1 : 20 ≤ R0.frames) (hR2 : 800 ≤ R0.locals) (hLx : Lx < 2 ^ 31) (hi : i + 4 < Lx) (hF : FR s R F) (hw : LW s R F L hs) (hn : ∀ (s2 : Sf) (R2 : Nat → Nat → Nat) (F2 : Nat → Nat) (L2 : Nat → Int64) (hs2 : List va_E), FR s2 R2 F2 → LW s2 R2 F2 L2 hs2 → K 997 [(0, .ref 500), (1, .ref 0), (2, .ref 45), (3, .int (nI i))] [] hs2) : K 915 [(0, .ref 500), (1, .ref 0), (2, .ref 45), (3, .int (nI i))] [] hs := by
  obtain ⟨v, dS, dM, PS, PM, h1, h2, hS, hM, hT⟩ := two_judge l L hF
  refine hC.cl.aload_n dL_law_915 rfl ?_
  refine hC.cl.lawS (st := []) (PS := PS) dL_law_916 lmL_121 mkX8_judge svX8_judge rfl (rm_up h1 hR1 hR2) hS rfl (fun _ => rfl) (Nat.le_of_ble_eq_true rfl) rfl hw (fun s2 w2 hs2 hp hw2 => ?_)
  refine hC.cl.aload_n dL_law_919 rfl ?_
  refine hC.cl.lawM (st := [.int v]) (PM := PM) dL_law_920 lmL_124 mkX9_judge svX9_judge rfl (rm_up h2 hR1 hR2) hM rfl (fun _ => rfl) (Nat.le_of_ble_eq_true rfl) rfl hw2 (fun R2 F2 L2 hs3 hq hw3 => ?_)
  exact hC.cl.icmp_eq dL_law_923 (tgt := 997) rfl (fun _ => hn s2 R2 F2 L2 hs3 (hT s2 w2 R2 F2 L2 hp hq) hw3) (fun c => absurd rfl c)
set_option maxHeartbeats 4000000 in
set_option maxRecDepth 20000 in
theorem law_seed (hC : Cs l cL_law RL 4 R0 K Lx xs) (hR1 : 20 ≤ R0.frames) (hR2 : 800 ≤ R0.locals) (hLx : Lx < 2 ^ 31) (hi : i + 4 < Lx) (hF : FR s R F) (hw : LW s R F L hs) (hn : ∀ (s2 : Sf) (R2 : Nat → Nat → Nat) (F2 : Nat → Nat) (L2 : Nat → Int64) (hs2 : List va_E), FR s2 R2 F2 → LW s2 R2 F2 L2 hs2 → K 997 [(0, .ref 500), (1, .ref 0), (2, .ref 45), (3, .int (nI i))] [] hs2) : K 928 [(0, .ref 500), (1, .ref 0), (2, .ref 45), (3, .int (nI i))] [] hs := by
  obtain ⟨v, dS, dM, PS, PM, h1, h2, hS, hM, hT⟩ := two_seed l L hF (xs (i + 1))
  refine hC.cl.aload_n dL_law_928 rfl ?_
  refine hC.num (i := i) (k := 1) dL_law_929 dL_law_930 dL_law_931 dL_law_932 dL_law_933 rfl rfl rfl hLx (by omega) ?_
  refine hC.cl.lawS (st := []) (PS := PS) dL_law_934 lmL_125 mkX8_seed svX8_seed rfl (rm_up h1 hR1 hR2) hS rfl (fun _ => rfl) (Nat.le_of_ble_eq_true rfl) rfl hw (fun s2 w2 hs2 hp hw2 => ?_)
  refine hC.cl.aload_n dL_law_937 rfl ?_
  refine hC.num (i := i) (k := 1) dL_law_938 dL_law_939 dL_law_940 dL_law_941 dL_law_942 rfl rfl rfl hLx (by omega) ?_
  refine hC.cl.lawM (st := [.int v]) (PM := PM) dL_law_943 lmL_128 mkX9_seed svX9_seed rfl (rm_up h2 hR1 hR2) hM rfl (fun _ => rfl) (Nat.le_of_ble_eq_true rfl) rfl hw2 (fun R2 F2 L2 hs3 hq hw3 => ?_)
  exact hC.cl.icmp_eq dL_law_946 (tgt := 997) rfl (fun _ => hn s2 R2 F2 L2 hs3 (hT s2 w2 R2 F2 L2 hp hq) hw3) (fun c => absurd rfl c)
set_option maxHeartbeats 4000000 in
set_option maxRecDepth 20000 in
theorem law_keep (hC : Cs l cL_law RL 4 R0 K Lx xs) (hR1 : 20 ≤ R0.frames) (hR2 : 800 ≤ R0.locals) (hLx : Lx < 2 ^ 31) (hi : i + 4 < Lx) (hF : FR s R F) (hw : LW s R F L hs) (hn : ∀ (s2 : Sf) (R2 : Nat → Nat → Nat) (F2 : Nat → Nat) (L2 : Nat → Int64) (hs2 : List va_E), FR s2 R2 F2 → LW s2 R2 F2 L2 hs2 → K 997 [(0, .ref 500), (1, .ref 0), (2, .ref 45), (3, .int (nI i))] [] hs2) : K 951 [(0, .ref 500), (1, .ref 0), (2, .ref 45), (3, .int (nI i))] [] hs := by
  obtain ⟨v, dS, dM, PS, PM, h1, h2, hS, hM, hT⟩ := two_keep l L hF (xs (i + 1))
  refine hC.cl.aload_n dL_law_951 rfl ?_
  refine hC.num (i := i) (k := 1) dL_law_952 dL_law_953 dL_law_954 dL_law_955 dL_law_956 rfl rfl rfl hLx (by omega) ?_
  refine hC.cl.lawS (st := []) (PS := PS) dL_law_957 lmL_129 mkX8_keep svX8_keep rfl (rm_up h1 hR1 hR2) hS rfl (fun _ => rfl) (Nat.le_of_ble_eq_true rfl) rfl hw (fun s2 w2 hs2 hp hw2 => ?_)
  refine hC.cl.aload_n dL_law_960 rfl ?_
  refine hC.num (i := i) (k := 1) dL_law_961 dL_law_962 dL_law_963 dL_law_964 dL_law_965 rfl rfl rfl hLx (by omega) ?_
  refine hC.cl.lawM (st := [.int v]) (PM := PM) dL_law_966 lmL_132 mkX9_keep svX9_keep rfl (rm_up h2 hR1 hR2) hM rfl (fun _ => rfl) (Nat.le_of_ble_eq_true rfl) rfl hw2 (fun R2 F2 L2 hs3 hq hw3 => ?_)
  exact hC.cl.icmp_eq dL_law_969 (tgt := 997) rfl (fun _ => hn s2 R2 F2 L2 hs3 (hT s2 w2 R2 F2 L2 hp hq) hw3) (fun c => absurd rfl c)
set_option maxHeartbeats 4000000 in
set_option maxRecDepth 20000 in
theorem law_goBack (hC : Cs l cL_law RL 4 R0 K Lx xs) (hR1 : 20 ≤ R0.frames) (hR2 : 800 ≤ R0.locals) (hLx : Lx < 2 ^ 31) (hi : i + 4 < Lx) (hF : FR s R F) (hw : LW s R F L hs) (hn : ∀ (s2 : Sf) (R2 : Nat → Nat → Nat) (F2 : Nat → Nat) (L2 : Nat → Int64) (hs2 : List va_E), FR s2 R2 F2 → LW s2 R2 F2 L2 hs2 → K 997 [(0, .ref 500), (1, .ref 0), (2, .ref 45), (3, .int (nI i))] [] hs2) : K 974 [(0, .ref 500), (1, .ref 0), (2, .ref 45), (3, .int (nI i))] [] hs := by
  obtain ⟨v, dS, dM, PS, PM, h1, h2, hS, hM, hT⟩ := two_goBack l L hF (xs (i + 1))
  refine hC.cl.aload_n dL_law_974 rfl ?_
  refine hC.num (i := i) (k := 1) dL_law_975 dL_law_976 dL_law_977 dL_law_978 dL_law_979 rfl rfl rfl hLx (by omega) ?_
  refine hC.cl.lawS (st := []) (PS := PS) dL_law_980 lmL_133 mkX8_goBack svX8_goBack rfl (rm_up h1 hR1 hR2) hS rfl (fun _ => rfl) (Nat.le_of_ble_eq_true rfl) rfl hw (fun s2 w2 hs2 hp hw2 => ?_)
  refine hC.cl.aload_n dL_law_983 rfl ?_
  refine hC.num (i := i) (k := 1) dL_law_984 dL_law_985 dL_law_986 dL_law_987 dL_law_988 rfl rfl rfl hLx (by omega) ?_
  refine hC.cl.lawM (st := [.int v]) (PM := PM) dL_law_989 lmL_136 mkX9_goBack svX9_goBack rfl (rm_up h2 hR1 hR2) hM rfl (fun _ => rfl) (Nat.le_of_ble_eq_true rfl) rfl hw2 (fun R2 F2 L2 hs3 hq hw3 => ?_)
  exact hC.cl.icmp_eq dL_law_992 (tgt := 997) rfl (fun _ => hn s2 R2 F2 L2 hs3 (hT s2 w2 R2 F2 L2 hp hq) hw3) (fun c => absurd rfl c)
end LAWK
