/-! the law's cases -/
section LC
variable {b Ln : Nat} {xs : Nat → Int32} {z : Nat × Nat} {h : Hp} {i : Nat} {S : SS} {Ms : Nat → Mt} {tx : List Int32} {row : List Int64}
set_option maxRecDepth 10000 in
theorem law_c0 (hi : i + 4 < Ln) (hLn : Ln ≤ 2560) (hz1 : z.1 ≤ 5000) (hz2 : z.2 ≤ 50000) (R : Rel h S Ms tx row) (hk : ∀ hm S Ms tx row, Rel hm S Ms tx row → V (Gl b Ln xs) mL_law (z.1 + 1, z.2 + 6) 1443 (Lw0 i) [] hm) : V (Gl b Ln xs) mL_law z 196 (Lw0 i) [] h := by
  obtain ⟨r, hx, hm, S1, Ms1, tx1, row1, eX, eM, R1⟩ := op_sign R (xs (i + 1))
  refine V.alq dL_law_196 (pc' := 197) rfl (j := 2) rfl ?_
  refine V.scr (k := 1) (j := 0) (j' := 1) rfl rfl dL_law_197 dL_law_198 dL_law_200 (by decide) dL_law_201 dL_law_202 (pc' := 203) rfl (by omega) hLn ?_
  refine V.callVi dL_law_203 (pc' := 206) rfl CV_L_31 (as := [.int (xs (i + 1))]) (kX5_sign h (xs (i + 1)) _ eX) (Gl_rm (by decide) (by omega) (by omega)) rfl (by decide) rfl (Nat.le_of_ble_eq_true rfl) rfl ?_
  refine V.alq dL_law_206 (pc' := 207) rfl (j := 3) rfl ?_
  refine V.scr (k := 1) (j := 0) (j' := 1) rfl rfl dL_law_207 dL_law_208 dL_law_210 (by decide) dL_law_211 dL_law_212 (pc' := 213) rfl (by omega) hLn ?_
  refine V.callVi dL_law_213 (pc' := 216) rfl CV_L_34 (as := [.int (xs (i + 1))]) (kX6_sign hx (xs (i + 1)) _ eM) (Gl_rm (by decide) (by omega) (by omega)) rfl (by decide) rfl (Nat.le_of_ble_eq_true rfl) rfl ?_
  refine V.ic_eq dL_law_216 (pc' := 219) rfl (tgt := 1443) (by decide) (fun _ => V.wid (z' := (z.1 + 1, z.2 + 6)) (by dsimp only; omega) (by dsimp only; omega) (hk _ _ _ _ _ R1)) (fun c => absurd rfl c)
set_option maxRecDepth 10000 in
theorem law_c1 (hi : i + 4 < Ln) (hLn : Ln ≤ 2560) (hz1 : z.1 ≤ 5000) (hz2 : z.2 ≤ 50000) (R : Rel h S Ms tx row) (hk : ∀ hm S Ms tx row, Rel hm S Ms tx row → V (Gl b Ln xs) mL_law (z.1 + 1, z.2 + 6) 1443 (Lw0 i) [] hm) : V (Gl b Ln xs) mL_law z 221 (Lw0 i) [] h := by
  obtain ⟨r, hx, hm, S1, Ms1, tx1, row1, eX, eM, R1⟩ := op_end R (xs (i + 1))
  refine V.alq dL_law_221 (pc' := 222) rfl (j := 2) rfl ?_
  refine V.scr (k := 1) (j := 0) (j' := 1) rfl rfl dL_law_222 dL_law_223 dL_law_225 (by decide) dL_law_226 dL_law_227 (pc' := 228) rfl (by omega) hLn ?_
  refine V.callVi dL_law_228 (pc' := 231) rfl CV_L_35 (as := [.int (xs (i + 1))]) (kX5_end h (xs (i + 1)) _ eX) (Gl_rm (by decide) (by omega) (by omega)) rfl (by decide) rfl (Nat.le_of_ble_eq_true rfl) rfl ?_
  refine V.alq dL_law_231 (pc' := 232) rfl (j := 3) rfl ?_
  refine V.scr (k := 1) (j := 0) (j' := 1) rfl rfl dL_law_232 dL_law_233 dL_law_235 (by decide) dL_law_236 dL_law_237 (pc' := 238) rfl (by omega) hLn ?_
  refine V.callVi dL_law_238 (pc' := 241) rfl CV_L_39 (as := [.int (xs (i + 1))]) (kX6_end hx (xs (i + 1)) _ eM) (Gl_rm (by decide) (by omega) (by omega)) rfl (by decide) rfl (Nat.le_of_ble_eq_true rfl) rfl ?_
  refine V.ic_eq dL_law_241 (pc' := 244) rfl (tgt := 1443) (by decide) (fun _ => V.wid (z' := (z.1 + 1, z.2 + 6)) (by dsimp only; omega) (by dsimp only; omega) (hk _ _ _ _ _ R1)) (fun c => absurd rfl c)
set_option maxRecDepth 10000 in
theorem law_c2 (hi : i + 4 < Ln) (hLn : Ln ≤ 2560) (hz1 : z.1 ≤ 5000) (hz2 : z.2 ≤ 50000) (R : Rel h S Ms tx row) (hk : ∀ hm S Ms tx row, Rel hm S Ms tx row → V (Gl b Ln xs) mL_law (z.1 + 1, z.2 + 6) 1443 (Lw0 i) [] hm) : V (Gl b Ln xs) mL_law z 246 (Lw0 i) [] h := by
  obtain ⟨r, hx, hm, S1, Ms1, tx1, row1, eX, eM, R1⟩ := op_streams R
  refine V.alq dL_law_246 (pc' := 247) rfl (j := 2) rfl ?_
  refine V.callVi dL_law_247 (pc' := 250) rfl CV_L_40 (as := []) (kX5_streams h  _ eX) (Gl_rm (by decide) (by omega) (by omega)) rfl (by decide) rfl (Nat.le_of_ble_eq_true rfl) rfl ?_
  refine V.alq dL_law_250 (pc' := 251) rfl (j := 3) rfl ?_
  refine V.callVi dL_law_251 (pc' := 254) rfl CV_L_44 (as := []) (kX6_streams hx  _ eM) (Gl_rm (by decide) (by omega) (by omega)) rfl (by decide) rfl (Nat.le_of_ble_eq_true rfl) rfl ?_
  refine V.ic_eq dL_law_254 (pc' := 257) rfl (tgt := 1443) (by decide) (fun _ => V.wid (z' := (z.1 + 1, z.2 + 6)) (by dsimp only; omega) (by dsimp only; omega) (hk _ _ _ _ _ R1)) (fun c => absurd rfl c)
set_option maxRecDepth 10000 in
theorem law_c3 (hi : i + 4 < Ln) (hLn : Ln ≤ 2560) (hz1 : z.1 ≤ 5000) (hz2 : z.2 ≤ 50000) (R : Rel h S Ms tx row) (hk : ∀ hm S Ms tx row, Rel hm S Ms tx row → V (Gl b Ln xs) mL_law (z.1 + 1, z.2 + 6) 1443 (Lw0 i) [] hm) : V (Gl b Ln xs) mL_law z 259 (Lw0 i) [] h := by
  obtain ⟨r, hx, hm, S1, Ms1, tx1, row1, eX, eM, R1⟩ := op_sets R (xs (i + 1)) (xs (i + 2)) (xs (i + 3))
  refine V.alq dL_law_259 (pc' := 260) rfl (j := 2) rfl ?_
  refine V.scr (k := 1) (j := 0) (j' := 1) rfl rfl dL_law_260 dL_law_261 dL_law_263 (by decide) dL_law_264 dL_law_265 (pc' := 266) rfl (by omega) hLn ?_
  refine V.scr (k := 2) (j := 0) (j' := 1) rfl rfl dL_law_266 dL_law_267 dL_law_269 (by decide) dL_law_270 dL_law_271 (pc' := 272) rfl (by omega) hLn ?_
  refine V.scr (k := 3) (j := 0) (j' := 1) rfl rfl dL_law_272 dL_law_273 dL_law_275 (by decide) dL_law_276 dL_law_277 (pc' := 278) rfl (by omega) hLn ?_
  refine V.callVi dL_law_278 (pc' := 281) rfl CV_L_45 (as := [.int (xs (i + 1)), .int (xs (i + 2)), .int (xs (i + 3))]) (kX5_sets h (xs (i + 1)) (xs (i + 2)) (xs (i + 3)) _ eX) (Gl_rm (by decide) (by omega) (by omega)) rfl (by decide) rfl (Nat.le_of_ble_eq_true rfl) rfl ?_
  refine V.alq dL_law_281 (pc' := 282) rfl (j := 3) rfl ?_
  refine V.scr (k := 1) (j := 0) (j' := 1) rfl rfl dL_law_282 dL_law_283 dL_law_285 (by decide) dL_law_286 dL_law_287 (pc' := 288) rfl (by omega) hLn ?_
  refine V.scr (k := 2) (j := 0) (j' := 1) rfl rfl dL_law_288 dL_law_289 dL_law_291 (by decide) dL_law_292 dL_law_293 (pc' := 294) rfl (by omega) hLn ?_
  refine V.scr (k := 3) (j := 0) (j' := 1) rfl rfl dL_law_294 dL_law_295 dL_law_297 (by decide) dL_law_298 dL_law_299 (pc' := 300) rfl (by omega) hLn ?_
  refine V.callVi dL_law_300 (pc' := 303) rfl CV_L_48 (as := [.int (xs (i + 1)), .int (xs (i + 2)), .int (xs (i + 3))]) (kX6_sets hx (xs (i + 1)) (xs (i + 2)) (xs (i + 3)) _ eM) (Gl_rm (by decide) (by omega) (by omega)) rfl (by decide) rfl (Nat.le_of_ble_eq_true rfl) rfl ?_
  refine V.ic_eq dL_law_303 (pc' := 306) rfl (tgt := 1443) (by decide) (fun _ => V.wid (z' := (z.1 + 1, z.2 + 6)) (by dsimp only; omega) (by dsimp only; omega) (hk _ _ _ _ _ R1)) (fun c => absurd rfl c)
set_option maxRecDepth 10000 in
theorem law_c4 (hi : i + 4 < Ln) (hLn : Ln ≤ 2560) (hz1 : z.1 ≤ 5000) (hz2 : z.2 ≤ 50000) (R : Rel h S Ms tx row) (hk : ∀ hm S Ms tx row, Rel hm S Ms tx row → V (Gl b Ln xs) mL_law (z.1 + 1, z.2 + 6) 1443 (Lw0 i) [] hm) : V (Gl b Ln xs) mL_law z 308 (Lw0 i) [] h := by
  obtain ⟨r, hx, hm, S1, Ms1, tx1, row1, eX, eM, R1⟩ := op_gap R (xs (i + 1))
  refine V.alq dL_law_308 (pc' := 309) rfl (j := 2) rfl ?_
  refine V.scr (k := 1) (j := 0) (j' := 1) rfl rfl dL_law_309 dL_law_310 dL_law_312 (by decide) dL_law_313 dL_law_314 (pc' := 315) rfl (by omega) hLn ?_
  refine V.callVi dL_law_315 (pc' := 318) rfl CV_L_49 (as := [.int (xs (i + 1))]) (kX5_gap h (xs (i + 1)) _ eX) (Gl_rm (by decide) (by omega) (by omega)) rfl (by decide) rfl (Nat.le_of_ble_eq_true rfl) rfl ?_
  refine V.alq dL_law_318 (pc' := 319) rfl (j := 3) rfl ?_
  refine V.scr (k := 1) (j := 0) (j' := 1) rfl rfl dL_law_319 dL_law_320 dL_law_322 (by decide) dL_law_323 dL_law_324 (pc' := 325) rfl (by omega) hLn ?_
  refine V.callVi dL_law_325 (pc' := 328) rfl CV_L_52 (as := [.int (xs (i + 1))]) (kX6_gap hx (xs (i + 1)) _ eM) (Gl_rm (by decide) (by omega) (by omega)) rfl (by decide) rfl (Nat.le_of_ble_eq_true rfl) rfl ?_
  refine V.ic_eq dL_law_328 (pc' := 331) rfl (tgt := 1443) (by decide) (fun _ => V.wid (z' := (z.1 + 1, z.2 + 6)) (by dsimp only; omega) (by dsimp only; omega) (hk _ _ _ _ _ R1)) (fun c => absurd rfl c)
set_option maxRecDepth 10000 in
theorem law_c5 (hi : i + 4 < Ln) (hLn : Ln ≤ 2560) (hz1 : z.1 ≤ 5000) (hz2 : z.2 ≤ 50000) (R : Rel h S Ms tx row) (hk : ∀ hm S Ms tx row, Rel hm S Ms tx row → V (Gl b Ln xs) mL_law (z.1 + 1, z.2 + 6) 1443 (Lw0 i) [] hm) : V (Gl b Ln xs) mL_law z 333 (Lw0 i) [] h := by
  obtain ⟨r, hx, hm, S1, Ms1, tx1, row1, eX, eM, R1⟩ := op_splits R (xs (i + 1)) (xs (i + 2))
  refine V.alq dL_law_333 (pc' := 334) rfl (j := 2) rfl ?_
  refine V.scr (k := 1) (j := 0) (j' := 1) rfl rfl dL_law_334 dL_law_335 dL_law_337 (by decide) dL_law_338 dL_law_339 (pc' := 340) rfl (by omega) hLn ?_
  refine V.scr (k := 2) (j := 0) (j' := 1) rfl rfl dL_law_340 dL_law_341 dL_law_343 (by decide) dL_law_344 dL_law_345 (pc' := 346) rfl (by omega) hLn ?_
  refine V.callVi dL_law_346 (pc' := 349) rfl CV_L_53 (as := [.int (xs (i + 1)), .int (xs (i + 2))]) (kX5_splits h (xs (i + 1)) (xs (i + 2)) _ eX) (Gl_rm (by decide) (by omega) (by omega)) rfl (by decide) rfl (Nat.le_of_ble_eq_true rfl) rfl ?_
  refine V.alq dL_law_349 (pc' := 350) rfl (j := 3) rfl ?_
  refine V.scr (k := 1) (j := 0) (j' := 1) rfl rfl dL_law_350 dL_law_351 dL_law_353 (by decide) dL_law_354 dL_law_355 (pc' := 356) rfl (by omega) hLn ?_
  refine V.scr (k := 2) (j := 0) (j' := 1) rfl rfl dL_law_356 dL_law_357 dL_law_359 (by decide) dL_law_360 dL_law_361 (pc' := 362) rfl (by omega) hLn ?_
  refine V.callVi dL_law_362 (pc' := 365) rfl CV_L_56 (as := [.int (xs (i + 1)), .int (xs (i + 2))]) (kX6_splits hx (xs (i + 1)) (xs (i + 2)) _ eM) (Gl_rm (by decide) (by omega) (by omega)) rfl (by decide) rfl (Nat.le_of_ble_eq_true rfl) rfl ?_
  refine V.ic_eq dL_law_365 (pc' := 368) rfl (tgt := 1443) (by decide) (fun _ => V.wid (z' := (z.1 + 1, z.2 + 6)) (by dsimp only; omega) (by dsimp only; omega) (hk _ _ _ _ _ R1)) (fun c => absurd rfl c)
set_option maxRecDepth 10000 in
theorem law_c6 (hi : i + 4 < Ln) (hLn : Ln ≤ 2560) (hz1 : z.1 ≤ 5000) (hz2 : z.2 ≤ 50000) (R : Rel h S Ms tx row) (hk : ∀ hm S Ms tx row, Rel hm S Ms tx row → V (Gl b Ln xs) mL_law (z.1 + 1, z.2 + 6) 1443 (Lw0 i) [] hm) : V (Gl b Ln xs) mL_law z 370 (Lw0 i) [] h := by
  obtain ⟨r, hx, hm, S1, Ms1, tx1, row1, eX, eM, R1⟩ := op_drops R (xs (i + 1))
  refine V.alq dL_law_370 (pc' := 371) rfl (j := 2) rfl ?_
  refine V.scr (k := 1) (j := 0) (j' := 1) rfl rfl dL_law_371 dL_law_372 dL_law_374 (by decide) dL_law_375 dL_law_376 (pc' := 377) rfl (by omega) hLn ?_
  refine V.callVi dL_law_377 (pc' := 380) rfl CV_L_57 (as := [.int (xs (i + 1))]) (kX5_drops h (xs (i + 1)) _ eX) (Gl_rm (by decide) (by omega) (by omega)) rfl (by decide) rfl (Nat.le_of_ble_eq_true rfl) rfl ?_
  refine V.alq dL_law_380 (pc' := 381) rfl (j := 3) rfl ?_
  refine V.scr (k := 1) (j := 0) (j' := 1) rfl rfl dL_law_381 dL_law_382 dL_law_384 (by decide) dL_law_385 dL_law_386 (pc' := 387) rfl (by omega) hLn ?_
  refine V.callVi dL_law_387 (pc' := 390) rfl CV_L_60 (as := [.int (xs (i + 1))]) (kX6_drops hx (xs (i + 1)) _ eM) (Gl_rm (by decide) (by omega) (by omega)) rfl (by decide) rfl (Nat.le_of_ble_eq_true rfl) rfl ?_
  refine V.ic_eq dL_law_390 (pc' := 393) rfl (tgt := 1443) (by decide) (fun _ => V.wid (z' := (z.1 + 1, z.2 + 6)) (by dsimp only; omega) (by dsimp only; omega) (hk _ _ _ _ _ R1)) (fun c => absurd rfl c)
set_option maxRecDepth 10000 in
theorem law_c7 (hi : i + 4 < Ln) (hLn : Ln ≤ 2560) (hz1 : z.1 ≤ 5000) (hz2 : z.2 ≤ 50000) (R : Rel h S Ms tx row) (hk : ∀ hm S Ms tx row, Rel hm S Ms tx row → V (Gl b Ln xs) mL_law (z.1 + 1, z.2 + 6) 1443 (Lw0 i) [] hm) : V (Gl b Ln xs) mL_law z 395 (Lw0 i) [] h := by
  obtain ⟨q, eX, cs⟩ := op_stream R (xs (i + 1)) (xs (i + 2))
  have hi9 : ∀ v, q.1 = some v → ∃ x : Int32, v = .int x := by
    rcases cs with ⟨c1, -⟩ | ⟨x, c1, -⟩
    · intro v hv; rw [c1] at hv; cases hv
    · intro v hv; rw [c1] at hv; cases hv; exact ⟨x, rfl⟩
  refine V.alq dL_law_395 (pc' := 396) rfl (j := 2) rfl ?_
  refine V.scr (k := 1) (j := 0) (j' := 1) rfl rfl dL_law_396 dL_law_397 dL_law_399 (by decide) dL_law_400 dL_law_401 (pc' := 402) rfl (by omega) hLn ?_
  refine V.scr (k := 2) (j := 0) (j' := 1) rfl rfl dL_law_402 dL_law_403 dL_law_405 (by decide) dL_law_406 dL_law_407 (pc' := 408) rfl (by omega) hLn ?_
  refine V.alq dL_law_408 (pc' := 409) rfl (j := 4) rfl ?_
  refine V.callL dL_law_409 (pc' := 412) rfl CT_L_61 (as := [.ref 1, .int (xs (i + 1)), .int (xs (i + 2)), .ref 0]) (kL_stream h (xs (i + 1)) (xs (i + 2)) q eX hi9) (Gl_rm (by decide) (by omega) (by omega)) rfl (Nat.le_of_ble_eq_true rfl) rfl (fun v h9 hpw => ?_)
  rcases hpw with ⟨w1, rfl, rfl⟩ | ⟨x, w1, rfl, rfl⟩ | ⟨x, w1, rfl, rfl⟩
  · rcases cs with ⟨-, r, hm, S1, Ms1, tx1, row1, eM, z1, R1⟩ | ⟨x, c1, -⟩
    · show V (Gl b Ln xs) mL_law (z.1 + 1, z.2 + 6) 412 (Lw0 i) [.int 1] q.2
      refine V.is dL_law_412 (pc' := 414) rfl (by decide) rfl (L' := [(5, .int 1), (4, .int (nI i)), (0, .ref 75), (1, .ref 1), (2, .ref 54), (3, .ref 0)]) rfl ?_
      refine V.alq dL_law_414 (pc' := 415) rfl (j := 4) rfl ?_
      refine V.scr (k := 1) (j := 1) (j' := 2) rfl rfl dL_law_415 dL_law_416 dL_law_418 (by decide) dL_law_419 dL_law_420 (pc' := 421) rfl (by omega) hLn ?_
      refine V.scr (k := 2) (j := 1) (j' := 2) rfl rfl dL_law_421 dL_law_422 dL_law_424 (by decide) dL_law_425 dL_law_426 (pc' := 427) rfl (by omega) hLn ?_
      refine V.callVi dL_law_427 (pc' := 430) rfl CV_L_66 (as := [.int (xs (i + 1)), .int (xs (i + 2))]) (kX6_stream q.2 (xs (i + 1)) (xs (i + 2)) _ eM) (Gl_rm (by decide) (by omega) (by omega)) rfl (by decide) rfl (Nat.le_of_ble_eq_true rfl) rfl ?_
      refine V.is dL_law_430 (pc' := 432) rfl (by decide) rfl (L' := [(6, .int r), (5, .int 1), (4, .int (nI i)), (0, .ref 75), (1, .ref 1), (2, .ref 54), (3, .ref 0)]) rfl ?_
      refine V.alq dL_law_432 (pc' := 433) rfl (j := 5) rfl ?_
      refine V.callVi dL_law_433 (pc' := 436) rfl CV_L_67 (as := []) (kX6_thrown hm _ rfl) (Gl_rm (by decide) (by omega) (by omega)) rfl (by decide) rfl (Nat.le_of_ble_eq_true rfl) rfl ?_
      refine V.il dL_law_436 (pc' := 438) rfl (j := 1) rfl ?_
      refine V.ic_eq dL_law_438 (pc' := 441) rfl (tgt := 443) (by decide) (fun _ => ?_) (fun c => absurd z1 c)
      refine V.il dL_law_443 (pc' := 445) rfl (j := 1) rfl ?_
      refine V.if_ne dL_law_445 (pc' := 448) rfl (tgt := 460) (by decide) (fun _ => ?_) (fun c => absurd c (by decide))
      refine V.goto dL_law_460 (pc' := 1443) (by decide) ?_
      refine V.pk [2, 3, 4, 5, 6] (L' := Lw0 i) rfl ?_
      exact hk _ _ _ _ _ R1
    · rw [w1] at c1; cases c1
  · rcases cs with ⟨c1, -⟩ | ⟨x1, c1, hm, S1, Ms1, tx1, row1, eM, z1, z2, R1⟩
    · rw [w1] at c1; cases c1
    · rw [w1] at c1
      cases c1
      show V (Gl b Ln xs) mL_law (z.1 + 1, z.2 + 6) 412 (Lw0 i) [.int 0] (u2 q.2 0 0 x.toInt64)
      refine V.is dL_law_412 (pc' := 414) rfl (by decide) rfl (L' := [(5, .int 0), (4, .int (nI i)), (0, .ref 75), (1, .ref 1), (2, .ref 54), (3, .ref 0)]) rfl ?_
      refine V.alq dL_law_414 (pc' := 415) rfl (j := 4) rfl ?_
      refine V.scr (k := 1) (j := 1) (j' := 2) rfl rfl dL_law_415 dL_law_416 dL_law_418 (by decide) dL_law_419 dL_law_420 (pc' := 421) rfl (by omega) hLn ?_
      refine V.scr (k := 2) (j := 1) (j' := 2) rfl rfl dL_law_421 dL_law_422 dL_law_424 (by decide) dL_law_425 dL_law_426 (pc' := 427) rfl (by omega) hLn ?_
      refine V.callVi dL_law_427 (pc' := 430) rfl CV_L_66 (as := [.int (xs (i + 1)), .int (xs (i + 2))]) (kX6_stream (u2 q.2 0 0 x.toInt64) (xs (i + 1)) (xs (i + 2)) _ eM) (Gl_rm (by decide) (by omega) (by omega)) rfl (by decide) rfl (Nat.le_of_ble_eq_true rfl) rfl ?_
      refine V.is dL_law_430 (pc' := 432) rfl (by decide) rfl (L' := [(6, .int x), (5, .int 0), (4, .int (nI i)), (0, .ref 75), (1, .ref 1), (2, .ref 54), (3, .ref 0)]) rfl ?_
      refine V.alq dL_law_432 (pc' := 433) rfl (j := 5) rfl ?_
      refine V.callVi dL_law_433 (pc' := 436) rfl CV_L_67 (as := []) (kX6_thrown hm _ rfl) (Gl_rm (by decide) (by omega) (by omega)) rfl (by decide) rfl (Nat.le_of_ble_eq_true rfl) rfl ?_
      refine V.il dL_law_436 (pc' := 438) rfl (j := 1) rfl ?_
      refine V.ic_eq dL_law_438 (pc' := 441) rfl (tgt := 443) (by decide) (fun _ => ?_) (fun c => absurd z1 c)
      refine V.il dL_law_443 (pc' := 445) rfl (j := 1) rfl ?_
      refine V.if_ne dL_law_445 (pc' := 448) rfl (tgt := 460) (by decide) (fun c => absurd rfl c) (fun _ => ?_)
      refine V.alq dL_law_448 (pc' := 449) rfl (j := 6) rfl ?_
      refine V.iconst dL_law_449 (pc' := 450) rfl (v := 0) (by decide) ?_
      refine V.lald dL_law_450 (pc' := 451) rfl rfl rfl (inb_t (by decide)) ?_
      refine V.il dL_law_451 (pc' := 453) rfl (j := 0) rfl ?_
      refine V.i2l dL_law_453 (pc' := 454) rfl ?_
      refine V.lcmp dL_law_454 (pc' := 455) rfl ?_
      refine V.if_eq dL_law_455 (pc' := 458) rfl (tgt := 460) (by decide) (fun _ => ?_) (fun c => absurd (lg_eq0.mpr (congrArg Int64.toInt z2)) c)
      refine V.goto dL_law_460 (pc' := 1443) (by decide) ?_
      refine V.pk [2, 3, 4, 5, 6] (L' := Lw0 i) rfl ?_
      exact hk _ _ _ _ _ R1
  · obtain ⟨x1, hx1⟩ := hi9 _ w1
    cases hx1
set_option maxRecDepth 10000 in
theorem law_c8 (hi : i + 4 < Ln) (hLn : Ln ≤ 2560) (hz1 : z.1 ≤ 5000) (hz2 : z.2 ≤ 50000) (R : Rel h S Ms tx row) (hk : ∀ hm S Ms tx row, Rel hm S Ms tx row → V (Gl b Ln xs) mL_law (z.1 + 1, z.2 + 6) 1443 (Lw0 i) [] hm) : V (Gl b Ln xs) mL_law z 463 (Lw0 i) [] h := by
  obtain ⟨q, eX, cs⟩ := op_border R (xs (i + 1))
  have hi9 : ∀ v, q.1 = some v → ∃ x : Int32, v = .int x := by
    rcases cs with ⟨c1, -⟩ | ⟨x, c1, -⟩
    · intro v hv; rw [c1] at hv; cases hv
    · intro v hv; rw [c1] at hv; cases hv; exact ⟨x, rfl⟩
  refine V.alq dL_law_463 (pc' := 464) rfl (j := 2) rfl ?_
  refine V.scr (k := 1) (j := 0) (j' := 1) rfl rfl dL_law_464 dL_law_465 dL_law_467 (by decide) dL_law_468 dL_law_469 (pc' := 470) rfl (by omega) hLn ?_
  refine V.alq dL_law_470 (pc' := 471) rfl (j := 4) rfl ?_
  refine V.callL dL_law_471 (pc' := 474) rfl CT_L_70 (as := [.ref 1, .int (xs (i + 1)), .ref 0]) (kL_border h (xs (i + 1)) q eX hi9) (Gl_rm (by decide) (by omega) (by omega)) rfl (Nat.le_of_ble_eq_true rfl) rfl (fun v h9 hpw => ?_)
  rcases hpw with ⟨w1, rfl, rfl⟩ | ⟨x, w1, rfl, rfl⟩ | ⟨x, w1, rfl, rfl⟩
  · rcases cs with ⟨-, r, hm, S1, Ms1, tx1, row1, eM, z1, R1⟩ | ⟨x, c1, -⟩
    · show V (Gl b Ln xs) mL_law (z.1 + 1, z.2 + 6) 474 (Lw0 i) [.int 1] q.2
      refine V.is dL_law_474 (pc' := 476) rfl (by decide) rfl (L' := [(5, .int 1), (4, .int (nI i)), (0, .ref 75), (1, .ref 1), (2, .ref 54), (3, .ref 0)]) rfl ?_
      refine V.alq dL_law_476 (pc' := 477) rfl (j := 4) rfl ?_
      refine V.scr (k := 1) (j := 1) (j' := 2) rfl rfl dL_law_477 dL_law_478 dL_law_480 (by decide) dL_law_481 dL_law_482 (pc' := 483) rfl (by omega) hLn ?_
      refine V.callVi dL_law_483 (pc' := 486) rfl CV_L_73 (as := [.int (xs (i + 1))]) (kX6_border q.2 (xs (i + 1)) _ eM) (Gl_rm (by decide) (by omega) (by omega)) rfl (by decide) rfl (Nat.le_of_ble_eq_true rfl) rfl ?_
      refine V.is dL_law_486 (pc' := 488) rfl (by decide) rfl (L' := [(6, .int r), (5, .int 1), (4, .int (nI i)), (0, .ref 75), (1, .ref 1), (2, .ref 54), (3, .ref 0)]) rfl ?_
      refine V.alq dL_law_488 (pc' := 489) rfl (j := 5) rfl ?_
      refine V.callVi dL_law_489 (pc' := 492) rfl CV_L_67 (as := []) (kX6_thrown hm _ rfl) (Gl_rm (by decide) (by omega) (by omega)) rfl (by decide) rfl (Nat.le_of_ble_eq_true rfl) rfl ?_
      refine V.il dL_law_492 (pc' := 494) rfl (j := 1) rfl ?_
      refine V.ic_eq dL_law_494 (pc' := 497) rfl (tgt := 499) (by decide) (fun _ => ?_) (fun c => absurd z1 c)
      refine V.il dL_law_499 (pc' := 501) rfl (j := 1) rfl ?_
      refine V.if_ne dL_law_501 (pc' := 504) rfl (tgt := 516) (by decide) (fun _ => ?_) (fun c => absurd c (by decide))
      refine V.goto dL_law_516 (pc' := 1443) (by decide) ?_
      refine V.pk [2, 3, 4, 5, 6] (L' := Lw0 i) rfl ?_
      exact hk _ _ _ _ _ R1
    · rw [w1] at c1; cases c1
  · rcases cs with ⟨c1, -⟩ | ⟨x1, c1, hm, S1, Ms1, tx1, row1, eM, z1, z2, R1⟩
    · rw [w1] at c1; cases c1
    · rw [w1] at c1
      cases c1
      show V (Gl b Ln xs) mL_law (z.1 + 1, z.2 + 6) 474 (Lw0 i) [.int 0] (u2 q.2 0 0 x.toInt64)
      refine V.is dL_law_474 (pc' := 476) rfl (by decide) rfl (L' := [(5, .int 0), (4, .int (nI i)), (0, .ref 75), (1, .ref 1), (2, .ref 54), (3, .ref 0)]) rfl ?_
      refine V.alq dL_law_476 (pc' := 477) rfl (j := 4) rfl ?_
      refine V.scr (k := 1) (j := 1) (j' := 2) rfl rfl dL_law_477 dL_law_478 dL_law_480 (by decide) dL_law_481 dL_law_482 (pc' := 483) rfl (by omega) hLn ?_
      refine V.callVi dL_law_483 (pc' := 486) rfl CV_L_73 (as := [.int (xs (i + 1))]) (kX6_border (u2 q.2 0 0 x.toInt64) (xs (i + 1)) _ eM) (Gl_rm (by decide) (by omega) (by omega)) rfl (by decide) rfl (Nat.le_of_ble_eq_true rfl) rfl ?_
      refine V.is dL_law_486 (pc' := 488) rfl (by decide) rfl (L' := [(6, .int x), (5, .int 0), (4, .int (nI i)), (0, .ref 75), (1, .ref 1), (2, .ref 54), (3, .ref 0)]) rfl ?_
      refine V.alq dL_law_488 (pc' := 489) rfl (j := 5) rfl ?_
      refine V.callVi dL_law_489 (pc' := 492) rfl CV_L_67 (as := []) (kX6_thrown hm _ rfl) (Gl_rm (by decide) (by omega) (by omega)) rfl (by decide) rfl (Nat.le_of_ble_eq_true rfl) rfl ?_
      refine V.il dL_law_492 (pc' := 494) rfl (j := 1) rfl ?_
      refine V.ic_eq dL_law_494 (pc' := 497) rfl (tgt := 499) (by decide) (fun _ => ?_) (fun c => absurd z1 c)
      refine V.il dL_law_499 (pc' := 501) rfl (j := 1) rfl ?_
      refine V.if_ne dL_law_501 (pc' := 504) rfl (tgt := 516) (by decide) (fun c => absurd rfl c) (fun _ => ?_)
      refine V.alq dL_law_504 (pc' := 505) rfl (j := 6) rfl ?_
      refine V.iconst dL_law_505 (pc' := 506) rfl (v := 0) (by decide) ?_
      refine V.lald dL_law_506 (pc' := 507) rfl rfl rfl (inb_t (by decide)) ?_
      refine V.il dL_law_507 (pc' := 509) rfl (j := 0) rfl ?_
      refine V.i2l dL_law_509 (pc' := 510) rfl ?_
      refine V.lcmp dL_law_510 (pc' := 511) rfl ?_
      refine V.if_eq dL_law_511 (pc' := 514) rfl (tgt := 516) (by decide) (fun _ => ?_) (fun c => absurd (lg_eq0.mpr (congrArg Int64.toInt z2)) c)
      refine V.goto dL_law_516 (pc' := 1443) (by decide) ?_
      refine V.pk [2, 3, 4, 5, 6] (L' := Lw0 i) rfl ?_
      exact hk _ _ _ _ _ R1
  · obtain ⟨x1, hx1⟩ := hi9 _ w1
    cases hx1
set_option maxRecDepth 10000 in
theorem law_c9 (hi : i + 4 < Ln) (hLn : Ln ≤ 2560) (hz1 : z.1 ≤ 5000) (hz2 : z.2 ≤ 50000) (R : Rel h S Ms tx row) (hk : ∀ hm S Ms tx row, Rel hm S Ms tx row → V (Gl b Ln xs) mL_law (z.1 + 1, z.2 + 6) 1443 (Lw0 i) [] hm) : V (Gl b Ln xs) mL_law z 519 (Lw0 i) [] h := by
  obtain ⟨r, hx, hm, S1, Ms1, tx1, row1, eX, eM, R1⟩ := op_fuel R
  refine V.alq dL_law_519 (pc' := 520) rfl (j := 2) rfl ?_
  refine V.callVi dL_law_520 (pc' := 523) rfl CV_L_74 (as := []) (kX5_fuel h  _ eX) (Gl_rm (by decide) (by omega) (by omega)) rfl (by decide) rfl (Nat.le_of_ble_eq_true rfl) rfl ?_
  refine V.alq dL_law_523 (pc' := 524) rfl (j := 3) rfl ?_
  refine V.callVi dL_law_524 (pc' := 527) rfl CV_L_77 (as := []) (kX6_fuel hx  _ eM) (Gl_rm (by decide) (by omega) (by omega)) rfl (by decide) rfl (Nat.le_of_ble_eq_true rfl) rfl ?_
  refine V.ic_eq dL_law_527 (pc' := 530) rfl (tgt := 1443) (by decide) (fun _ => V.wid (z' := (z.1 + 1, z.2 + 6)) (by dsimp only; omega) (by dsimp only; omega) (hk _ _ _ _ _ R1)) (fun c => absurd rfl c)
set_option maxRecDepth 10000 in
theorem law_c10 (hi : i + 4 < Ln) (hLn : Ln ≤ 2560) (hz1 : z.1 ≤ 5000) (hz2 : z.2 ≤ 50000) (R : Rel h S Ms tx row) (hk : ∀ hm S Ms tx row, Rel hm S Ms tx row → V (Gl b Ln xs) mL_law (z.1 + 1, z.2 + 6) 1443 (Lw0 i) [] hm) : V (Gl b Ln xs) mL_law z 532 (Lw0 i) [] h := by
  obtain ⟨r, hx, hm, S1, Ms1, tx1, row1, eX, eM, R1⟩ := op_pinch R
  refine V.alq dL_law_532 (pc' := 533) rfl (j := 2) rfl ?_
  refine V.callVi dL_law_533 (pc' := 536) rfl CV_L_78 (as := []) (kX5_pinch h  _ eX) (Gl_rm (by decide) (by omega) (by omega)) rfl (by decide) rfl (Nat.le_of_ble_eq_true rfl) rfl ?_
  refine V.alq dL_law_536 (pc' := 537) rfl (j := 3) rfl ?_
  refine V.callVi dL_law_537 (pc' := 540) rfl CV_L_81 (as := []) (kX6_pinch hx  _ eM) (Gl_rm (by decide) (by omega) (by omega)) rfl (by decide) rfl (Nat.le_of_ble_eq_true rfl) rfl ?_
  refine V.ic_eq dL_law_540 (pc' := 543) rfl (tgt := 1443) (by decide) (fun _ => V.wid (z' := (z.1 + 1, z.2 + 6)) (by dsimp only; omega) (by dsimp only; omega) (hk _ _ _ _ _ R1)) (fun c => absurd rfl c)
set_option maxRecDepth 10000 in
theorem law_c11 (hi : i + 4 < Ln) (hLn : Ln ≤ 2560) (hz1 : z.1 ≤ 5000) (hz2 : z.2 ≤ 50000) (R : Rel h S Ms tx row) (hk : ∀ hm S Ms tx row, Rel hm S Ms tx row → V (Gl b Ln xs) mL_law (z.1 + 1, z.2 + 6) 1443 (Lw0 i) [] hm) : V (Gl b Ln xs) mL_law z 545 (Lw0 i) [] h := by
  obtain ⟨r, hx, hm, S1, Ms1, tx1, row1, eX, eM, R1⟩ := op_carry R (xs (i + 1))
  refine V.alq dL_law_545 (pc' := 546) rfl (j := 2) rfl ?_
  refine V.scr (k := 1) (j := 0) (j' := 1) rfl rfl dL_law_546 dL_law_547 dL_law_549 (by decide) dL_law_550 dL_law_551 (pc' := 552) rfl (by omega) hLn ?_
  refine V.callVi dL_law_552 (pc' := 555) rfl CV_L_82 (as := [.int (xs (i + 1))]) (kX5_carry h (xs (i + 1)) _ eX) (Gl_rm (by decide) (by omega) (by omega)) rfl (by decide) rfl (Nat.le_of_ble_eq_true rfl) rfl ?_
  refine V.alq dL_law_555 (pc' := 556) rfl (j := 3) rfl ?_
  refine V.scr (k := 1) (j := 0) (j' := 1) rfl rfl dL_law_556 dL_law_557 dL_law_559 (by decide) dL_law_560 dL_law_561 (pc' := 562) rfl (by omega) hLn ?_
  refine V.callVi dL_law_562 (pc' := 565) rfl CV_L_85 (as := [.int (xs (i + 1))]) (kX6_carry hx (xs (i + 1)) _ eM) (Gl_rm (by decide) (by omega) (by omega)) rfl (by decide) rfl (Nat.le_of_ble_eq_true rfl) rfl ?_
  refine V.ic_eq dL_law_565 (pc' := 568) rfl (tgt := 1443) (by decide) (fun _ => V.wid (z' := (z.1 + 1, z.2 + 6)) (by dsimp only; omega) (by dsimp only; omega) (hk _ _ _ _ _ R1)) (fun c => absurd rfl c)
set_option maxRecDepth 10000 in
theorem law_c12 (hi : i + 4 < Ln) (hLn : Ln ≤ 2560) (hz1 : z.1 ≤ 5000) (hz2 : z.2 ≤ 50000) (R : Rel h S Ms tx row) (hk : ∀ hm S Ms tx row, Rel hm S Ms tx row → V (Gl b Ln xs) mL_law (z.1 + 1, z.2 + 6) 1443 (Lw0 i) [] hm) : V (Gl b Ln xs) mL_law z 570 (Lw0 i) [] h := by
  obtain ⟨r, hx, hm, S1, Ms1, tx1, row1, eX, eM, R1⟩ := op_above R (bx (xs (i + 1))) (xs (i + 2))
  refine V.alq dL_law_570 (pc' := 571) rfl (j := 2) rfl ?_
  refine V.scr (k := 1) (j := 0) (j' := 1) rfl rfl dL_law_571 dL_law_572 dL_law_574 (by decide) dL_law_575 dL_law_576 (pc' := 577) rfl (by omega) hLn ?_
  refine V.bl dL_law_577 dL_law_580 dL_law_581 dL_law_584 (pc' := 585) rfl ?_
  refine V.scr (k := 2) (j := 0) (j' := 1) rfl rfl dL_law_585 dL_law_586 dL_law_588 (by decide) dL_law_589 dL_law_590 (pc' := 591) rfl (by omega) hLn ?_
  refine V.callVi dL_law_591 (pc' := 594) rfl CV_L_86 (as := [.int (bx (xs (i + 1))), .int (xs (i + 2))]) (kX5_above h (bx (xs (i + 1))) (xs (i + 2)) _ eX) (Gl_rm (by decide) (by omega) (by omega)) rfl (by decide) rfl (Nat.le_of_ble_eq_true rfl) rfl ?_
  refine V.alq dL_law_594 (pc' := 595) rfl (j := 3) rfl ?_
  refine V.scr (k := 1) (j := 0) (j' := 1) rfl rfl dL_law_595 dL_law_596 dL_law_598 (by decide) dL_law_599 dL_law_600 (pc' := 601) rfl (by omega) hLn ?_
  refine V.bl dL_law_601 dL_law_604 dL_law_605 dL_law_608 (pc' := 609) rfl ?_
  refine V.scr (k := 2) (j := 0) (j' := 1) rfl rfl dL_law_609 dL_law_610 dL_law_612 (by decide) dL_law_613 dL_law_614 (pc' := 615) rfl (by omega) hLn ?_
  refine V.callVi dL_law_615 (pc' := 618) rfl CV_L_90 (as := [.int (bx (xs (i + 1))), .int (xs (i + 2))]) (kX6_above hx (bx (xs (i + 1))) (xs (i + 2)) _ eM) (Gl_rm (by decide) (by omega) (by omega)) rfl (by decide) rfl (Nat.le_of_ble_eq_true rfl) rfl ?_
  refine V.ic_eq dL_law_618 (pc' := 621) rfl (tgt := 1443) (by decide) (fun _ => V.wid (z' := (z.1 + 1, z.2 + 6)) (by dsimp only; omega) (by dsimp only; omega) (hk _ _ _ _ _ R1)) (fun c => absurd rfl c)
set_option maxRecDepth 10000 in
theorem law_c13 (hi : i + 4 < Ln) (hLn : Ln ≤ 2560) (hz1 : z.1 ≤ 5000) (hz2 : z.2 ≤ 50000) (R : Rel h S Ms tx row) (hk : ∀ hm S Ms tx row, Rel hm S Ms tx row → V (Gl b Ln xs) mL_law (z.1 + 1, z.2 + 6) 1443 (Lw0 i) [] hm) : V (Gl b Ln xs) mL_law z 623 (Lw0 i) [] h := by
  obtain ⟨r, hx, hm, S1, Ms1, tx1, row1, eX, eM, R1⟩ := op_level R (bx (xs (i + 1))) (xs (i + 2))
  refine V.alq dL_law_623 (pc' := 624) rfl (j := 2) rfl ?_
  refine V.scr (k := 1) (j := 0) (j' := 1) rfl rfl dL_law_624 dL_law_625 dL_law_627 (by decide) dL_law_628 dL_law_629 (pc' := 630) rfl (by omega) hLn ?_
  refine V.bl dL_law_630 dL_law_633 dL_law_634 dL_law_637 (pc' := 638) rfl ?_
  refine V.scr (k := 2) (j := 0) (j' := 1) rfl rfl dL_law_638 dL_law_639 dL_law_641 (by decide) dL_law_642 dL_law_643 (pc' := 644) rfl (by omega) hLn ?_
  refine V.callVi dL_law_644 (pc' := 647) rfl CV_L_91 (as := [.int (bx (xs (i + 1))), .int (xs (i + 2))]) (kX5_level h (bx (xs (i + 1))) (xs (i + 2)) _ eX) (Gl_rm (by decide) (by omega) (by omega)) rfl (by decide) rfl (Nat.le_of_ble_eq_true rfl) rfl ?_
  refine V.alq dL_law_647 (pc' := 648) rfl (j := 3) rfl ?_
  refine V.scr (k := 1) (j := 0) (j' := 1) rfl rfl dL_law_648 dL_law_649 dL_law_651 (by decide) dL_law_652 dL_law_653 (pc' := 654) rfl (by omega) hLn ?_
  refine V.bl dL_law_654 dL_law_657 dL_law_658 dL_law_661 (pc' := 662) rfl ?_
  refine V.scr (k := 2) (j := 0) (j' := 1) rfl rfl dL_law_662 dL_law_663 dL_law_665 (by decide) dL_law_666 dL_law_667 (pc' := 668) rfl (by omega) hLn ?_
  refine V.callVi dL_law_668 (pc' := 671) rfl CV_L_94 (as := [.int (bx (xs (i + 1))), .int (xs (i + 2))]) (kX6_level hx (bx (xs (i + 1))) (xs (i + 2)) _ eM) (Gl_rm (by decide) (by omega) (by omega)) rfl (by decide) rfl (Nat.le_of_ble_eq_true rfl) rfl ?_
  refine V.ic_eq dL_law_671 (pc' := 674) rfl (tgt := 1443) (by decide) (fun _ => V.wid (z' := (z.1 + 1, z.2 + 6)) (by dsimp only; omega) (by dsimp only; omega) (hk _ _ _ _ _ R1)) (fun c => absurd rfl c)
set_option maxRecDepth 10000 in
theorem law_c14 (hi : i + 4 < Ln) (hLn : Ln ≤ 2560) (hz1 : z.1 ≤ 5000) (hz2 : z.2 ≤ 50000) (R : Rel h S Ms tx row) (hk : ∀ hm S Ms tx row, Rel hm S Ms tx row → V (Gl b Ln xs) mL_law (z.1 + 1, z.2 + 6) 1443 (Lw0 i) [] hm) : V (Gl b Ln xs) mL_law z 676 (Lw0 i) [] h := by
  obtain ⟨r, hx, hm, S1, Ms1, tx1, row1, eX, eM, R1⟩ := op_by R (xs (i + 1))
  refine V.alq dL_law_676 (pc' := 677) rfl (j := 2) rfl ?_
  refine V.scr (k := 1) (j := 0) (j' := 1) rfl rfl dL_law_677 dL_law_678 dL_law_680 (by decide) dL_law_681 dL_law_682 (pc' := 683) rfl (by omega) hLn ?_
  refine V.callVi dL_law_683 (pc' := 686) rfl CV_L_95 (as := [.int (xs (i + 1))]) (kX5_by h (xs (i + 1)) _ eX) (Gl_rm (by decide) (by omega) (by omega)) rfl (by decide) rfl (Nat.le_of_ble_eq_true rfl) rfl ?_
  refine V.alq dL_law_686 (pc' := 687) rfl (j := 3) rfl ?_
  refine V.scr (k := 1) (j := 0) (j' := 1) rfl rfl dL_law_687 dL_law_688 dL_law_690 (by decide) dL_law_691 dL_law_692 (pc' := 693) rfl (by omega) hLn ?_
  refine V.callVi dL_law_693 (pc' := 696) rfl CV_L_98 (as := [.int (xs (i + 1))]) (kX6_by hx (xs (i + 1)) _ eM) (Gl_rm (by decide) (by omega) (by omega)) rfl (by decide) rfl (Nat.le_of_ble_eq_true rfl) rfl ?_
  refine V.ic_eq dL_law_696 (pc' := 699) rfl (tgt := 1443) (by decide) (fun _ => V.wid (z' := (z.1 + 1, z.2 + 6)) (by dsimp only; omega) (by dsimp only; omega) (hk _ _ _ _ _ R1)) (fun c => absurd rfl c)
set_option maxRecDepth 10000 in
theorem law_c15 (hi : i + 4 < Ln) (hLn : Ln ≤ 2560) (hz1 : z.1 ≤ 5000) (hz2 : z.2 ≤ 50000) (R : Rel h S Ms tx row) (hk : ∀ hm S Ms tx row, Rel hm S Ms tx row → V (Gl b Ln xs) mL_law (z.1 + 1, z.2 + 6) 1443 (Lw0 i) [] hm) : V (Gl b Ln xs) mL_law z 701 (Lw0 i) [] h := by
  obtain ⟨r, hx, hm, S1, Ms1, tx1, row1, eX, eM, R1⟩ := op_widest R (xs (i + 1))
  refine V.alq dL_law_701 (pc' := 702) rfl (j := 2) rfl ?_
  refine V.scr (k := 1) (j := 0) (j' := 1) rfl rfl dL_law_702 dL_law_703 dL_law_705 (by decide) dL_law_706 dL_law_707 (pc' := 708) rfl (by omega) hLn ?_
  refine V.callVi dL_law_708 (pc' := 711) rfl CV_L_99 (as := [.int (xs (i + 1))]) (kX5_widest h (xs (i + 1)) _ eX) (Gl_rm (by decide) (by omega) (by omega)) rfl (by decide) rfl (Nat.le_of_ble_eq_true rfl) rfl ?_
  refine V.alq dL_law_711 (pc' := 712) rfl (j := 3) rfl ?_
  refine V.scr (k := 1) (j := 0) (j' := 1) rfl rfl dL_law_712 dL_law_713 dL_law_715 (by decide) dL_law_716 dL_law_717 (pc' := 718) rfl (by omega) hLn ?_
  refine V.callVi dL_law_718 (pc' := 721) rfl CV_L_102 (as := [.int (xs (i + 1))]) (kX6_widest hx (xs (i + 1)) _ eM) (Gl_rm (by decide) (by omega) (by omega)) rfl (by decide) rfl (Nat.le_of_ble_eq_true rfl) rfl ?_
  refine V.ic_eq dL_law_721 (pc' := 724) rfl (tgt := 1443) (by decide) (fun _ => V.wid (z' := (z.1 + 1, z.2 + 6)) (by dsimp only; omega) (by dsimp only; omega) (hk _ _ _ _ _ R1)) (fun c => absurd rfl c)
set_option maxRecDepth 10000 in
theorem law_c16 (hi : i + 4 < Ln) (hLn : Ln ≤ 2560) (hz1 : z.1 ≤ 5000) (hz2 : z.2 ≤ 50000) (R : Rel h S Ms tx row) (hk : ∀ hm S Ms tx row, Rel hm S Ms tx row → V (Gl b Ln xs) mL_law (z.1 + 1, z.2 + 6) 1443 (Lw0 i) [] hm) : V (Gl b Ln xs) mL_law z 726 (Lw0 i) [] h := by
  obtain ⟨r, hx, hm, S1, Ms1, tx1, row1, eX, eM, R1⟩ := op_were R (xs (i + 1)) (xs (i + 2)) (xs (i + 3))
  refine V.alq dL_law_726 (pc' := 727) rfl (j := 2) rfl ?_
  refine V.scr (k := 1) (j := 0) (j' := 1) rfl rfl dL_law_727 dL_law_728 dL_law_730 (by decide) dL_law_731 dL_law_732 (pc' := 733) rfl (by omega) hLn ?_
  refine V.scr (k := 2) (j := 0) (j' := 1) rfl rfl dL_law_733 dL_law_734 dL_law_736 (by decide) dL_law_737 dL_law_738 (pc' := 739) rfl (by omega) hLn ?_
  refine V.scr (k := 3) (j := 0) (j' := 1) rfl rfl dL_law_739 dL_law_740 dL_law_742 (by decide) dL_law_743 dL_law_744 (pc' := 745) rfl (by omega) hLn ?_
  refine V.callVi dL_law_745 (pc' := 748) rfl CV_L_103 (as := [.int (xs (i + 1)), .int (xs (i + 2)), .int (xs (i + 3))]) (kX5_were h (xs (i + 1)) (xs (i + 2)) (xs (i + 3)) _ eX) (Gl_rm (by decide) (by omega) (by omega)) rfl (by decide) rfl (Nat.le_of_ble_eq_true rfl) rfl ?_
  refine V.alq dL_law_748 (pc' := 749) rfl (j := 3) rfl ?_
  refine V.scr (k := 1) (j := 0) (j' := 1) rfl rfl dL_law_749 dL_law_750 dL_law_752 (by decide) dL_law_753 dL_law_754 (pc' := 755) rfl (by omega) hLn ?_
  refine V.scr (k := 2) (j := 0) (j' := 1) rfl rfl dL_law_755 dL_law_756 dL_law_758 (by decide) dL_law_759 dL_law_760 (pc' := 761) rfl (by omega) hLn ?_
  refine V.scr (k := 3) (j := 0) (j' := 1) rfl rfl dL_law_761 dL_law_762 dL_law_764 (by decide) dL_law_765 dL_law_766 (pc' := 767) rfl (by omega) hLn ?_
  refine V.callVi dL_law_767 (pc' := 770) rfl CV_L_106 (as := [.int (xs (i + 1)), .int (xs (i + 2)), .int (xs (i + 3))]) (kX6_were hx (xs (i + 1)) (xs (i + 2)) (xs (i + 3)) _ eM) (Gl_rm (by decide) (by omega) (by omega)) rfl (by decide) rfl (Nat.le_of_ble_eq_true rfl) rfl ?_
  refine V.ic_eq dL_law_770 (pc' := 773) rfl (tgt := 1443) (by decide) (fun _ => V.wid (z' := (z.1 + 1, z.2 + 6)) (by dsimp only; omega) (by dsimp only; omega) (hk _ _ _ _ _ R1)) (fun c => absurd rfl c)
set_option maxRecDepth 10000 in
theorem law_c17 (hi : i + 4 < Ln) (hLn : Ln ≤ 2560) (hz1 : z.1 ≤ 5000) (hz2 : z.2 ≤ 50000) (R : Rel h S Ms tx row) (hk : ∀ hm S Ms tx row, Rel hm S Ms tx row → V (Gl b Ln xs) mL_law (z.1 + 1, z.2 + 6) 1443 (Lw0 i) [] hm) : V (Gl b Ln xs) mL_law z 775 (Lw0 i) [] h := by
  obtain ⟨r, hx, hm, S1, Ms1, tx1, row1, eX, eM, R1⟩ := op_without R (xs (i + 1))
  refine V.alq dL_law_775 (pc' := 776) rfl (j := 2) rfl ?_
  refine V.scr (k := 1) (j := 0) (j' := 1) rfl rfl dL_law_776 dL_law_777 dL_law_779 (by decide) dL_law_780 dL_law_781 (pc' := 782) rfl (by omega) hLn ?_
  refine V.callVi dL_law_782 (pc' := 785) rfl CV_L_107 (as := [.int (xs (i + 1))]) (kX5_without h (xs (i + 1)) _ eX) (Gl_rm (by decide) (by omega) (by omega)) rfl (by decide) rfl (Nat.le_of_ble_eq_true rfl) rfl ?_
  refine V.alq dL_law_785 (pc' := 786) rfl (j := 3) rfl ?_
  refine V.scr (k := 1) (j := 0) (j' := 1) rfl rfl dL_law_786 dL_law_787 dL_law_789 (by decide) dL_law_790 dL_law_791 (pc' := 792) rfl (by omega) hLn ?_
  refine V.callVi dL_law_792 (pc' := 795) rfl CV_L_110 (as := [.int (xs (i + 1))]) (kX6_without hx (xs (i + 1)) _ eM) (Gl_rm (by decide) (by omega) (by omega)) rfl (by decide) rfl (Nat.le_of_ble_eq_true rfl) rfl ?_
  refine V.ic_eq dL_law_795 (pc' := 798) rfl (tgt := 1443) (by decide) (fun _ => V.wid (z' := (z.1 + 1, z.2 + 6)) (by dsimp only; omega) (by dsimp only; omega) (hk _ _ _ _ _ R1)) (fun c => absurd rfl c)
end LC
