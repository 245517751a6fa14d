section LC
variable {p : Program} {l : Launch} {e : Env} {s : State} {m : MethodId} {below : List Frame} {meth : Method} {c : Code} {H : Heap} {locs : List Loc} {cells slots : Nat} {Q : State → Prop} {b L i : Nat} {xs : Nat → Int32} {ls : Array Slot} {Z0 Bc Bm : pZ} {Sc Sm : pS}
set_option maxRecDepth 100000 in
set_option maxHeartbeats 4000000 in
theorem lc_state (G : Cx p s m #[Value.ref b] c RL cL_law 4 Z0) (hA : pA Z0 s.heap.size = A0 s) (hX : va_X b L xs s s.heap) (hbl : b < s.heap.size) (hi : i + 8 ≤ L) (hL : L ≤ 4096) (hI : LI Z0 s Bc Bm Sc Sm H locs cells slots) (hl : lv_has ls 4 [(0, .ref b), (1, .ref (za Bc 0)), (2, .ref (za Bm 0)), (3, .int (nI i))]) (K : Kont p l e s m below meth c b i Z0 Q) : W p l e room_1 s m #[Value.ref b] below meth c H locs cells slots Q (F0 m 208 ls []) := by
  obtain ⟨hx, hb, hml, hown, hts⟩ := id G.1
  have hT := hI.two
  have er := M_state hI.rel (xs (i + 1))
  obtain ⟨r, S2, e1⟩ : ∃ r S2, F11_state Sc (xs (i + 1)) = (r, S2) := ⟨_, _, rfl⟩
  obtain ⟨r', S3, e2⟩ : ∃ r S2, F12_state Sm (xs (i + 1)) = (r, S2) := ⟨_, _, rfl⟩
  rw [e1, e2] at er
  obtain ⟨er, eR⟩ := er
  have er : r = r' := er
  have eR : (Rel (Sc 0)) S2 S3 := eR
  subst er
  refine lv_aload_n hx hb dL_law_208 rfl (lv_at hl 1 rfl) ?_
  refine ga hx hb hX hbl hT.2.2 hi hL hl 1 (by decide) (by decide) dL_law_209 dL_law_210 dL_law_211 dL_law_212 dL_law_213 ?_
  refine kVi (Z := wX Bc (cel Bm Sm)) (rest := []) (hI.gc G hA hT) hT.c (wX11_state hI.hC Sc (xs (i + 1)) r S2 hI.h0 e1) cwL_13 hI.h0 KX11 ⟨Nat.le_of_ble_eq_true rfl, Nat.le_of_ble_eq_true rfl⟩ rfl hl.1 rfl (Nat.le_of_ble_eq_true rfl) hI.room dL_law_214 (fun H locs hw => ?_)
  have hT := hT.c' hw
  refine lv_aload_n hx hb dL_law_217 rfl (lv_at hl 2 rfl) ?_
  refine ga hx hb hX hbl hT.2.2 hi hL hl 1 (by decide) (by decide) dL_law_218 dL_law_219 dL_law_220 dL_law_221 dL_law_222 ?_
  refine kVi (Z := wX Bm (cel Bc S2)) (rest := [.int r]) (hI.gm G hA hT) (hT.m hI.dd) (wX12_state hI.hM Sm (xs (i + 1)) r S3 e2) cwL_17 (m_this hI.hM) KX12 ⟨Nat.le_of_ble_eq_true rfl, Nat.le_of_ble_eq_true rfl⟩ rfl hl.1 rfl (Nat.le_of_ble_eq_true rfl) hI.room dL_law_223 (fun H locs hw => ?_)
  have hT := hT.m' hI.dd hw
  exact lv_icmp_eq (tgt := 1671) hx hb dL_law_226 (by decide) (fun _ => K _ _ _ _ _ _ _ _ _ (hI.next hT eR) hl) (fun q => absurd rfl q)
set_option maxRecDepth 100000 in
set_option maxHeartbeats 4000000 in
theorem lc_spear (G : Cx p s m #[Value.ref b] c RL cL_law 4 Z0) (hA : pA Z0 s.heap.size = A0 s) (hX : va_X b L xs s s.heap) (hbl : b < s.heap.size) (hi : i + 8 ≤ L) (hL : L ≤ 4096) (hI : LI Z0 s Bc Bm Sc Sm H locs cells slots) (hl : lv_has ls 4 [(0, .ref b), (1, .ref (za Bc 0)), (2, .ref (za Bm 0)), (3, .int (nI i))]) (K : Kont p l e s m below meth c b i Z0 Q) : W p l e room_1 s m #[Value.ref b] below meth c H locs cells slots Q (F0 m 231 ls []) := by
  obtain ⟨hx, hb, hml, hown, hts⟩ := id G.1
  have hT := hI.two
  obtain ⟨⟨r, S2⟩, ⟨r', S3⟩, e1, e2, er, eR⟩ := M_spear hI.rel (xs (i + 1)) (xs (i + 2))
  have er : r = r' := er
  have eR : (Rel (Sc 0)) S2 S3 := eR
  subst er
  refine lv_aload_n hx hb dL_law_231 rfl (lv_at hl 1 rfl) ?_
  refine ga hx hb hX hbl hT.2.2 hi hL hl 1 (by decide) (by decide) dL_law_232 dL_law_233 dL_law_234 dL_law_235 dL_law_236 ?_
  refine ga hx hb hX hbl hT.2.2 hi hL hl 2 (by decide) (by decide) dL_law_237 dL_law_238 dL_law_239 dL_law_240 dL_law_241 ?_
  refine kVi (Z := wX Bc (cel Bm Sm)) (rest := []) (hI.gc G hA hT) hT.c (wX11_spear hI.hC Sc (xs (i + 1)) (xs (i + 2)) r S2 hI.h0 e1) cwL_18 hI.h0 KX11 ⟨Nat.le_of_ble_eq_true rfl, Nat.le_of_ble_eq_true rfl⟩ rfl hl.1 rfl (Nat.le_of_ble_eq_true rfl) hI.room dL_law_242 (fun H locs hw => ?_)
  have hT := hT.c' hw
  refine lv_aload_n hx hb dL_law_245 rfl (lv_at hl 2 rfl) ?_
  refine ga hx hb hX hbl hT.2.2 hi hL hl 1 (by decide) (by decide) dL_law_246 dL_law_247 dL_law_248 dL_law_249 dL_law_250 ?_
  refine ga hx hb hX hbl hT.2.2 hi hL hl 2 (by decide) (by decide) dL_law_251 dL_law_252 dL_law_253 dL_law_254 dL_law_255 ?_
  refine kVi (Z := wX Bm (cel Bc S2)) (rest := [.int r]) (hI.gm G hA hT) (hT.m hI.dd) (wX12_spear hI.hM Sm (xs (i + 1)) (xs (i + 2)) r S3 e2) cwL_22 (m_this hI.hM) KX12 ⟨Nat.le_of_ble_eq_true rfl, Nat.le_of_ble_eq_true rfl⟩ rfl hl.1 rfl (Nat.le_of_ble_eq_true rfl) hI.room dL_law_256 (fun H locs hw => ?_)
  have hT := hT.m' hI.dd hw
  exact lv_icmp_eq (tgt := 1671) hx hb dL_law_259 (by decide) (fun _ => K _ _ _ _ _ _ _ _ _ (hI.next hT eR) hl) (fun q => absurd rfl q)
set_option maxRecDepth 100000 in
set_option maxHeartbeats 4000000 in
theorem lc_thrower (G : Cx p s m #[Value.ref b] c RL cL_law 4 Z0) (hA : pA Z0 s.heap.size = A0 s) (hX : va_X b L xs s s.heap) (hbl : b < s.heap.size) (hi : i + 8 ≤ L) (hL : L ≤ 4096) (hI : LI Z0 s Bc Bm Sc Sm H locs cells slots) (hl : lv_has ls 4 [(0, .ref b), (1, .ref (za Bc 0)), (2, .ref (za Bm 0)), (3, .int (nI i))]) (K : Kont p l e s m below meth c b i Z0 Q) : W p l e room_1 s m #[Value.ref b] below meth c H locs cells slots Q (F0 m 264 ls []) := by
  obtain ⟨hx, hb, hml, hown, hts⟩ := id G.1
  have hT := hI.two
  obtain ⟨⟨r, S2⟩, ⟨r', S3⟩, e1, e2, er, eR⟩ := M_thrower hI.rel (xs (i + 1))
  have er : r = r' := er
  have eR : (Rel (Sc 0)) S2 S3 := eR
  subst er
  refine lv_aload_n hx hb dL_law_264 rfl (lv_at hl 1 rfl) ?_
  refine ga hx hb hX hbl hT.2.2 hi hL hl 1 (by decide) (by decide) dL_law_265 dL_law_266 dL_law_267 dL_law_268 dL_law_269 ?_
  refine kVi (Z := wX Bc (cel Bm Sm)) (rest := []) (hI.gc G hA hT) hT.c (wX11_thrower hI.hC Sc (xs (i + 1)) r S2 hI.h0 e1) cwL_23 hI.h0 KX11 ⟨Nat.le_of_ble_eq_true rfl, Nat.le_of_ble_eq_true rfl⟩ rfl hl.1 rfl (Nat.le_of_ble_eq_true rfl) hI.room dL_law_270 (fun H locs hw => ?_)
  have hT := hT.c' hw
  refine lv_aload_n hx hb dL_law_273 rfl (lv_at hl 2 rfl) ?_
  refine ga hx hb hX hbl hT.2.2 hi hL hl 1 (by decide) (by decide) dL_law_274 dL_law_275 dL_law_276 dL_law_277 dL_law_278 ?_
  refine kVi (Z := wX Bm (cel Bc S2)) (rest := [.int r]) (hI.gm G hA hT) (hT.m hI.dd) (wX12_thrower hI.hM Sm (xs (i + 1)) r S3 e2) cwL_26 (m_this hI.hM) KX12 ⟨Nat.le_of_ble_eq_true rfl, Nat.le_of_ble_eq_true rfl⟩ rfl hl.1 rfl (Nat.le_of_ble_eq_true rfl) hI.room dL_law_279 (fun H locs hw => ?_)
  have hT := hT.m' hI.dd hw
  exact lv_icmp_eq (tgt := 1671) hx hb dL_law_282 (by decide) (fun _ => K _ _ _ _ _ _ _ _ _ (hI.next hT eR) hl) (fun q => absurd rfl q)
set_option maxRecDepth 100000 in
set_option maxHeartbeats 4000000 in
theorem lc_set (G : Cx p s m #[Value.ref b] c RL cL_law 4 Z0) (hA : pA Z0 s.heap.size = A0 s) (hX : va_X b L xs s s.heap) (hbl : b < s.heap.size) (hi : i + 8 ≤ L) (hL : L ≤ 4096) (hI : LI Z0 s Bc Bm Sc Sm H locs cells slots) (hl : lv_has ls 4 [(0, .ref b), (1, .ref (za Bc 0)), (2, .ref (za Bm 0)), (3, .int (nI i))]) (K : Kont p l e s m below meth c b i Z0 Q) : W p l e room_1 s m #[Value.ref b] below meth c H locs cells slots Q (F0 m 287 ls []) := by
  obtain ⟨hx, hb, hml, hown, hts⟩ := id G.1
  have hT := hI.two
  obtain ⟨⟨r, S2⟩, ⟨r', S3⟩, e1, e2, er, eR⟩ := M_set hI.rel (xs (i + 1)) (xs (i + 2)) (xs (i + 3))
  have er : r = r' := er
  have eR : (Rel (Sc 0)) S2 S3 := eR
  subst er
  refine lv_aload_n hx hb dL_law_287 rfl (lv_at hl 1 rfl) ?_
  refine ga hx hb hX hbl hT.2.2 hi hL hl 1 (by decide) (by decide) dL_law_288 dL_law_289 dL_law_290 dL_law_291 dL_law_292 ?_
  refine ga hx hb hX hbl hT.2.2 hi hL hl 2 (by decide) (by decide) dL_law_293 dL_law_294 dL_law_295 dL_law_296 dL_law_297 ?_
  refine ga hx hb hX hbl hT.2.2 hi hL hl 3 (by decide) (by decide) dL_law_298 dL_law_299 dL_law_300 dL_law_301 dL_law_302 ?_
  refine kVi (Z := wX Bc (cel Bm Sm)) (rest := []) (hI.gc G hA hT) hT.c (wX11_set hI.hC Sc (xs (i + 1)) (xs (i + 2)) (xs (i + 3)) r S2 hI.h0 e1) cwL_27 hI.h0 KX11 ⟨Nat.le_of_ble_eq_true rfl, Nat.le_of_ble_eq_true rfl⟩ rfl hl.1 rfl (Nat.le_of_ble_eq_true rfl) hI.room dL_law_303 (fun H locs hw => ?_)
  have hT := hT.c' hw
  refine lv_aload_n hx hb dL_law_306 rfl (lv_at hl 2 rfl) ?_
  refine ga hx hb hX hbl hT.2.2 hi hL hl 1 (by decide) (by decide) dL_law_307 dL_law_308 dL_law_309 dL_law_310 dL_law_311 ?_
  refine ga hx hb hX hbl hT.2.2 hi hL hl 2 (by decide) (by decide) dL_law_312 dL_law_313 dL_law_314 dL_law_315 dL_law_316 ?_
  refine ga hx hb hX hbl hT.2.2 hi hL hl 3 (by decide) (by decide) dL_law_317 dL_law_318 dL_law_319 dL_law_320 dL_law_321 ?_
  refine kVi (Z := wX Bm (cel Bc S2)) (rest := [.int r]) (hI.gm G hA hT) (hT.m hI.dd) (wX12_set hI.hM Sm (xs (i + 1)) (xs (i + 2)) (xs (i + 3)) r S3 e2) cwL_31 (m_this hI.hM) KX12 ⟨Nat.le_of_ble_eq_true rfl, Nat.le_of_ble_eq_true rfl⟩ rfl hl.1 rfl (Nat.le_of_ble_eq_true rfl) hI.room dL_law_322 (fun H locs hw => ?_)
  have hT := hT.m' hI.dd hw
  exact lv_icmp_eq (tgt := 1671) hx hb dL_law_325 (by decide) (fun _ => K _ _ _ _ _ _ _ _ _ (hI.next hT eR) hl) (fun q => absurd rfl q)
set_option maxRecDepth 100000 in
set_option maxHeartbeats 4000000 in
theorem lc_feed (G : Cx p s m #[Value.ref b] c RL cL_law 4 Z0) (hA : pA Z0 s.heap.size = A0 s) (hX : va_X b L xs s s.heap) (hbl : b < s.heap.size) (hi : i + 8 ≤ L) (hL : L ≤ 4096) (hI : LI Z0 s Bc Bm Sc Sm H locs cells slots) (hl : lv_has ls 4 [(0, .ref b), (1, .ref (za Bc 0)), (2, .ref (za Bm 0)), (3, .int (nI i))]) (K : Kont p l e s m below meth c b i Z0 Q) : W p l e room_1 s m #[Value.ref b] below meth c H locs cells slots Q (F0 m 330 ls []) := by
  obtain ⟨hx, hb, hml, hown, hts⟩ := id G.1
  have hT := hI.two
  obtain ⟨⟨r, S2⟩, ⟨r', S3⟩, e1, e2, er, eR⟩ := M_feed hI.rel (xs (i + 1)) (xs (i + 2)) (xs (i + 3)) (xs (i + 4)) (xs (i + 5))
  have er : r = r' := er
  have eR : (Rel (Sc 0)) S2 S3 := eR
  subst er
  refine lv_aload_n hx hb dL_law_330 rfl (lv_at hl 1 rfl) ?_
  refine ga hx hb hX hbl hT.2.2 hi hL hl 1 (by decide) (by decide) dL_law_331 dL_law_332 dL_law_333 dL_law_334 dL_law_335 ?_
  refine ga hx hb hX hbl hT.2.2 hi hL hl 2 (by decide) (by decide) dL_law_336 dL_law_337 dL_law_338 dL_law_339 dL_law_340 ?_
  refine ga hx hb hX hbl hT.2.2 hi hL hl 3 (by decide) (by decide) dL_law_341 dL_law_342 dL_law_343 dL_law_344 dL_law_345 ?_
  refine ga hx hb hX hbl hT.2.2 hi hL hl 4 (by decide) (by decide) dL_law_346 dL_law_347 dL_law_348 dL_law_349 dL_law_350 ?_
  refine ga hx hb hX hbl hT.2.2 hi hL hl 5 (by decide) (by decide) dL_law_351 dL_law_352 dL_law_353 dL_law_354 dL_law_355 ?_
  refine kVi (Z := wX Bc (cel Bm Sm)) (rest := []) (hI.gc G hA hT) hT.c (wX11_feed hI.hC Sc (xs (i + 1)) (xs (i + 2)) (xs (i + 3)) (xs (i + 4)) (xs (i + 5)) r S2 hI.h0 e1) cwL_32 hI.h0 KX11 ⟨Nat.le_of_ble_eq_true rfl, Nat.le_of_ble_eq_true rfl⟩ rfl hl.1 rfl (Nat.le_of_ble_eq_true rfl) hI.room dL_law_356 (fun H locs hw => ?_)
  have hT := hT.c' hw
  refine lv_aload_n hx hb dL_law_359 rfl (lv_at hl 2 rfl) ?_
  refine ga hx hb hX hbl hT.2.2 hi hL hl 1 (by decide) (by decide) dL_law_360 dL_law_361 dL_law_362 dL_law_363 dL_law_364 ?_
  refine ga hx hb hX hbl hT.2.2 hi hL hl 2 (by decide) (by decide) dL_law_365 dL_law_366 dL_law_367 dL_law_368 dL_law_369 ?_
  refine ga hx hb hX hbl hT.2.2 hi hL hl 3 (by decide) (by decide) dL_law_370 dL_law_371 dL_law_372 dL_law_373 dL_law_374 ?_
  refine ga hx hb hX hbl hT.2.2 hi hL hl 4 (by decide) (by decide) dL_law_375 dL_law_376 dL_law_377 dL_law_378 dL_law_379 ?_
  refine ga hx hb hX hbl hT.2.2 hi hL hl 5 (by decide) (by decide) dL_law_380 dL_law_381 dL_law_382 dL_law_383 dL_law_384 ?_
  refine kVi (Z := wX Bm (cel Bc S2)) (rest := [.int r]) (hI.gm G hA hT) (hT.m hI.dd) (wX12_feed hI.hM Sm (xs (i + 1)) (xs (i + 2)) (xs (i + 3)) (xs (i + 4)) (xs (i + 5)) r S3 e2) cwL_36 (m_this hI.hM) KX12 ⟨Nat.le_of_ble_eq_true rfl, Nat.le_of_ble_eq_true rfl⟩ rfl hl.1 rfl (Nat.le_of_ble_eq_true rfl) hI.room dL_law_385 (fun H locs hw => ?_)
  have hT := hT.m' hI.dd hw
  exact lv_icmp_eq (tgt := 1671) hx hb dL_law_388 (by decide) (fun _ => K _ _ _ _ _ _ _ _ _ (hI.next hT eR) hl) (fun q => absurd rfl q)
set_option maxRecDepth 100000 in
set_option maxHeartbeats 4000000 in
theorem lc_end (G : Cx p s m #[Value.ref b] c RL cL_law 4 Z0) (hA : pA Z0 s.heap.size = A0 s) (hX : va_X b L xs s s.heap) (hbl : b < s.heap.size) (hi : i + 8 ≤ L) (hL : L ≤ 4096) (hI : LI Z0 s Bc Bm Sc Sm H locs cells slots) (hl : lv_has ls 4 [(0, .ref b), (1, .ref (za Bc 0)), (2, .ref (za Bm 0)), (3, .int (nI i))]) (K : Kont p l e s m below meth c b i Z0 Q) : W p l e room_1 s m #[Value.ref b] below meth c H locs cells slots Q (F0 m 393 ls []) := by
  obtain ⟨hx, hb, hml, hown, hts⟩ := id G.1
  have hT := hI.two
  have er := M_end hI.rel (xs (i + 1))
  obtain ⟨r, S2, e1⟩ : ∃ r S2, F11_end Sc (xs (i + 1)) = (r, S2) := ⟨_, _, rfl⟩
  obtain ⟨r', S3, e2⟩ : ∃ r S2, F12_end Sm (xs (i + 1)) = (r, S2) := ⟨_, _, rfl⟩
  rw [e1, e2] at er
  obtain ⟨er, eR⟩ := er
  have er : r = r' := er
  have eR : (Rel (Sc 0)) S2 S3 := eR
  subst er
  refine lv_aload_n hx hb dL_law_393 rfl (lv_at hl 1 rfl) ?_
  refine ga hx hb hX hbl hT.2.2 hi hL hl 1 (by decide) (by decide) dL_law_394 dL_law_395 dL_law_396 dL_law_397 dL_law_398 ?_
  refine kVi (Z := wX Bc (cel Bm Sm)) (rest := []) (hI.gc G hA hT) hT.c (wX11_end hI.hC Sc (xs (i + 1)) r S2 hI.h0 e1) cwL_37 hI.h0 KX11 ⟨Nat.le_of_ble_eq_true rfl, Nat.le_of_ble_eq_true rfl⟩ rfl hl.1 rfl (Nat.le_of_ble_eq_true rfl) hI.room dL_law_399 (fun H locs hw => ?_)
  have hT := hT.c' hw
  refine lv_aload_n hx hb dL_law_402 rfl (lv_at hl 2 rfl) ?_
  refine ga hx hb hX hbl hT.2.2 hi hL hl 1 (by decide) (by decide) dL_law_403 dL_law_404 dL_law_405 dL_law_406 dL_law_407 ?_
  refine kVi (Z := wX Bm (cel Bc S2)) (rest := [.int r]) (hI.gm G hA hT) (hT.m hI.dd) (wX12_end hI.hM Sm (xs (i + 1)) r S3 e2) cwL_41 (m_this hI.hM) KX12 ⟨Nat.le_of_ble_eq_true rfl, Nat.le_of_ble_eq_true rfl⟩ rfl hl.1 rfl (Nat.le_of_ble_eq_true rfl) hI.room dL_law_408 (fun H locs hw => ?_)
  have hT := hT.m' hI.dd hw
  exact lv_icmp_eq (tgt := 1671) hx hb dL_law_411 (by decide) (fun _ => K _ _ _ _ _ _ _ _ _ (hI.next hT eR) hl) (fun q => absurd rfl q)
set_option maxRecDepth 100000 in
set_option maxHeartbeats 4000000 in
theorem lc_text (G : Cx p s m #[Value.ref b] c RL cL_law 4 Z0) (hA : pA Z0 s.heap.size = A0 s) (hX : va_X b L xs s s.heap) (hbl : b < s.heap.size) (hi : i + 8 ≤ L) (hL : L ≤ 4096) (hI : LI Z0 s Bc Bm Sc Sm H locs cells slots) (hl : lv_has ls 4 [(0, .ref b), (1, .ref (za Bc 0)), (2, .ref (za Bm 0)), (3, .int (nI i))]) (K : Kont p l e s m below meth c b i Z0 Q) : W p l e room_1 s m #[Value.ref b] below meth c H locs cells slots Q (F0 m 416 ls []) := by
  obtain ⟨hx, hb, hml, hown, hts⟩ := id G.1
  have hT := hI.two
  obtain ⟨⟨r, S2⟩, ⟨r', S3⟩, e1, e2, er, eR⟩ := M_text hI.rel (xs (i + 1)) (xs (i + 2))
  have er : r = r' := er
  have eR : (Rel (Sc 0)) S2 S3 := eR
  subst er
  refine lv_aload_n hx hb dL_law_416 rfl (lv_at hl 1 rfl) ?_
  refine ga hx hb hX hbl hT.2.2 hi hL hl 1 (by decide) (by decide) dL_law_417 dL_law_418 dL_law_419 dL_law_420 dL_law_421 ?_
  refine ga hx hb hX hbl hT.2.2 hi hL hl 2 (by decide) (by decide) dL_law_422 dL_law_423 dL_law_424 dL_law_425 dL_law_426 ?_
  refine kVi (Z := wX Bc (cel Bm Sm)) (rest := []) (hI.gc G hA hT) hT.c (wX11_text hI.hC Sc (xs (i + 1)) (xs (i + 2)) r S2 hI.h0 e1) cwL_42 hI.h0 KX11 ⟨Nat.le_of_ble_eq_true rfl, Nat.le_of_ble_eq_true rfl⟩ rfl hl.1 rfl (Nat.le_of_ble_eq_true rfl) hI.room dL_law_427 (fun H locs hw => ?_)
  have hT := hT.c' hw
  refine lv_aload_n hx hb dL_law_430 rfl (lv_at hl 2 rfl) ?_
  refine ga hx hb hX hbl hT.2.2 hi hL hl 1 (by decide) (by decide) dL_law_431 dL_law_432 dL_law_433 dL_law_434 dL_law_435 ?_
  refine ga hx hb hX hbl hT.2.2 hi hL hl 2 (by decide) (by decide) dL_law_436 dL_law_437 dL_law_438 dL_law_439 dL_law_440 ?_
  refine kVi (Z := wX Bm (cel Bc S2)) (rest := [.int r]) (hI.gm G hA hT) (hT.m hI.dd) (wX12_text hI.hM Sm (xs (i + 1)) (xs (i + 2)) r S3 e2) cwL_45 (m_this hI.hM) KX12 ⟨Nat.le_of_ble_eq_true rfl, Nat.le_of_ble_eq_true rfl⟩ rfl hl.1 rfl (Nat.le_of_ble_eq_true rfl) hI.room dL_law_441 (fun H locs hw => ?_)
  have hT := hT.m' hI.dd hw
  exact lv_icmp_eq (tgt := 1671) hx hb dL_law_444 (by decide) (fun _ => K _ _ _ _ _ _ _ _ _ (hI.next hT eR) hl) (fun q => absurd rfl q)
set_option maxRecDepth 100000 in
set_option maxHeartbeats 4000000 in
theorem lc_fault (G : Cx p s m #[Value.ref b] c RL cL_law 4 Z0) (hA : pA Z0 s.heap.size = A0 s) (hX : va_X b L xs s s.heap) (hbl : b < s.heap.size) (hi : i + 8 ≤ L) (hL : L ≤ 4096) (hI : LI Z0 s Bc Bm Sc Sm H locs cells slots) (hl : lv_has ls 4 [(0, .ref b), (1, .ref (za Bc 0)), (2, .ref (za Bm 0)), (3, .int (nI i))]) (K : Kont p l e s m below meth c b i Z0 Q) : W p l e room_1 s m #[Value.ref b] below meth c H locs cells slots Q (F0 m 449 ls []) := by
  obtain ⟨hx, hb, hml, hown, hts⟩ := id G.1
  have hT := hI.two
  obtain ⟨r, e1⟩ : ∃ r, F11_fault Sc (xs (i + 1)) = r := ⟨_, rfl⟩
  have e2 : F12_fault Sm (xs (i + 1)) = r := (M_fault hI.rel (xs (i + 1))).symm.trans e1
  refine lv_aload_n hx hb dL_law_449 rfl (lv_at hl 1 rfl) ?_
  refine ga hx hb hX hbl hT.2.2 hi hL hl 1 (by decide) (by decide) dL_law_450 dL_law_451 dL_law_452 dL_law_453 dL_law_454 ?_
  refine kVi (Z := wX Bc (cel Bm Sm)) (rest := []) (hI.gc G hA hT) hT.c (wX11_fault hI.hC Sc (xs (i + 1)) r hI.h0 e1) cwL_46 hI.h0 KX11 ⟨Nat.le_of_ble_eq_true rfl, Nat.le_of_ble_eq_true rfl⟩ rfl hl.1 rfl (Nat.le_of_ble_eq_true rfl) hI.room dL_law_455 (fun H locs hw => ?_)
  have hT := hT.c' hw
  refine lv_aload_n hx hb dL_law_458 rfl (lv_at hl 2 rfl) ?_
  refine ga hx hb hX hbl hT.2.2 hi hL hl 1 (by decide) (by decide) dL_law_459 dL_law_460 dL_law_461 dL_law_462 dL_law_463 ?_
  refine kVi (Z := wX Bm (cel Bc Sc)) (rest := [.int r]) (hI.gm G hA hT) (hT.m hI.dd) (wX12_fault hI.hM Sm (xs (i + 1)) r e2) cwL_49 (m_this hI.hM) KX12 ⟨Nat.le_of_ble_eq_true rfl, Nat.le_of_ble_eq_true rfl⟩ rfl hl.1 rfl (Nat.le_of_ble_eq_true rfl) hI.room dL_law_464 (fun H locs hw => ?_)
  have hT := hT.m' hI.dd hw
  exact lv_icmp_eq (tgt := 1671) hx hb dL_law_467 (by decide) (fun _ => K _ _ _ _ _ _ _ _ _ (hI.same hT) hl) (fun q => absurd rfl q)
set_option maxRecDepth 100000 in
set_option maxHeartbeats 4000000 in
theorem lc_throwIt (G : Cx p s m #[Value.ref b] c RL cL_law 4 Z0) (hA : pA Z0 s.heap.size = A0 s) (hX : va_X b L xs s s.heap) (hbl : b < s.heap.size) (hi : i + 8 ≤ L) (hL : L ≤ 4096) (hI : LI Z0 s Bc Bm Sc Sm H locs cells slots) (hl : lv_has ls 4 [(0, .ref b), (1, .ref (za Bc 0)), (2, .ref (za Bm 0)), (3, .int (nI i))]) (K : Kont p l e s m below meth c b i Z0 Q) : W p l e room_1 s m #[Value.ref b] below meth c H locs cells slots Q (F0 m 472 ls []) := by
  obtain ⟨hx, hb, hml, hown, hts⟩ := id G.1
  have hT := hI.two
  obtain ⟨⟨r, S2⟩, ⟨r', S3⟩, e1, e2, er, eR⟩ := M_throwIt hI.rel (xs (i + 1)) (xs (i + 2)) (xs (i + 3)) (xs (i + 4))
  have er : r = r' := er
  have eR : (Rel (Sc 0)) S2 S3 := eR
  subst er
  refine lv_aload_n hx hb dL_law_472 rfl (lv_at hl 1 rfl) ?_
  refine ga hx hb hX hbl hT.2.2 hi hL hl 1 (by decide) (by decide) dL_law_473 dL_law_474 dL_law_475 dL_law_476 dL_law_477 ?_
  refine ga hx hb hX hbl hT.2.2 hi hL hl 2 (by decide) (by decide) dL_law_478 dL_law_479 dL_law_480 dL_law_481 dL_law_482 ?_
  refine ga hx hb hX hbl hT.2.2 hi hL hl 3 (by decide) (by decide) dL_law_483 dL_law_484 dL_law_485 dL_law_486 dL_law_487 ?_
  refine ga hx hb hX hbl hT.2.2 hi hL hl 4 (by decide) (by decide) dL_law_488 dL_law_489 dL_law_490 dL_law_491 dL_law_492 ?_
  refine kVi (Z := wX Bc (cel Bm Sm)) (rest := []) (hI.gc G hA hT) hT.c (wX11_throwIt hI.hC Sc (xs (i + 1)) (xs (i + 2)) (xs (i + 3)) (xs (i + 4)) r S2 hI.h0 e1) cwL_50 hI.h0 KX11 ⟨Nat.le_of_ble_eq_true rfl, Nat.le_of_ble_eq_true rfl⟩ rfl hl.1 rfl (Nat.le_of_ble_eq_true rfl) hI.room dL_law_493 (fun H locs hw => ?_)
  have hT := hT.c' hw
  refine lv_aload_n hx hb dL_law_496 rfl (lv_at hl 2 rfl) ?_
  refine ga hx hb hX hbl hT.2.2 hi hL hl 1 (by decide) (by decide) dL_law_497 dL_law_498 dL_law_499 dL_law_500 dL_law_501 ?_
  refine ga hx hb hX hbl hT.2.2 hi hL hl 2 (by decide) (by decide) dL_law_502 dL_law_503 dL_law_504 dL_law_505 dL_law_506 ?_
  refine ga hx hb hX hbl hT.2.2 hi hL hl 3 (by decide) (by decide) dL_law_507 dL_law_508 dL_law_509 dL_law_510 dL_law_511 ?_
  refine ga hx hb hX hbl hT.2.2 hi hL hl 4 (by decide) (by decide) dL_law_512 dL_law_513 dL_law_514 dL_law_515 dL_law_516 ?_
  refine kVi (Z := wX Bm (cel Bc S2)) (rest := [.int r]) (hI.gm G hA hT) (hT.m hI.dd) (wX12_throwIt hI.hM Sm (xs (i + 1)) (xs (i + 2)) (xs (i + 3)) (xs (i + 4)) r S3 e2) cwL_54 (m_this hI.hM) KX12 ⟨Nat.le_of_ble_eq_true rfl, Nat.le_of_ble_eq_true rfl⟩ rfl hl.1 rfl (Nat.le_of_ble_eq_true rfl) hI.room dL_law_517 (fun H locs hw => ?_)
  have hT := hT.m' hI.dd hw
  exact lv_icmp_eq (tgt := 1671) hx hb dL_law_520 (by decide) (fun _ => K _ _ _ _ _ _ _ _ _ (hI.next hT eR) hl) (fun q => absurd rfl q)
set_option maxRecDepth 100000 in
set_option maxHeartbeats 4000000 in
theorem lc_pass (G : Cx p s m #[Value.ref b] c RL cL_law 4 Z0) (hA : pA Z0 s.heap.size = A0 s) (hX : va_X b L xs s s.heap) (hbl : b < s.heap.size) (hi : i + 8 ≤ L) (hL : L ≤ 4096) (hI : LI Z0 s Bc Bm Sc Sm H locs cells slots) (hl : lv_has ls 4 [(0, .ref b), (1, .ref (za Bc 0)), (2, .ref (za Bm 0)), (3, .int (nI i))]) (K : Kont p l e s m below meth c b i Z0 Q) : W p l e room_1 s m #[Value.ref b] below meth c H locs cells slots Q (F0 m 525 ls []) := by
  obtain ⟨hx, hb, hml, hown, hts⟩ := id G.1
  have hT := hI.two
  obtain ⟨⟨r, S2⟩, ⟨r', S3⟩, e1, e2, er, eR⟩ := M_pass hI.rel
  have er : r = r' := er
  have eR : (Rel (Sc 0)) S2 S3 := eR
  subst er
  refine lv_aload_n hx hb dL_law_525 rfl (lv_at hl 1 rfl) ?_
  refine kVi (Z := wX Bc (cel Bm Sm)) (rest := []) (hI.gc G hA hT) hT.c (wX11_pass hI.hC Sc r S2 hI.h0 e1) cwL_55 hI.h0 KX11 ⟨Nat.le_of_ble_eq_true rfl, Nat.le_of_ble_eq_true rfl⟩ rfl hl.1 rfl (Nat.le_of_ble_eq_true rfl) hI.room dL_law_526 (fun H locs hw => ?_)
  have hT := hT.c' hw
  refine lv_aload_n hx hb dL_law_529 rfl (lv_at hl 2 rfl) ?_
  refine kVi (Z := wX Bm (cel Bc S2)) (rest := [.int r]) (hI.gm G hA hT) (hT.m hI.dd) (wX12_pass hI.hM Sm r S3 e2) cwL_59 (m_this hI.hM) KX12 ⟨Nat.le_of_ble_eq_true rfl, Nat.le_of_ble_eq_true rfl⟩ rfl hl.1 rfl (Nat.le_of_ble_eq_true rfl) hI.room dL_law_530 (fun H locs hw => ?_)
  have hT := hT.m' hI.dd hw
  exact lv_icmp_eq (tgt := 1671) hx hb dL_law_533 (by decide) (fun _ => K _ _ _ _ _ _ _ _ _ (hI.next hT eR) hl) (fun q => absurd rfl q)
set_option maxRecDepth 100000 in
set_option maxHeartbeats 4000000 in
theorem lc_turnsGo (G : Cx p s m #[Value.ref b] c RL cL_law 4 Z0) (hA : pA Z0 s.heap.size = A0 s) (hX : va_X b L xs s s.heap) (hbl : b < s.heap.size) (hi : i + 8 ≤ L) (hL : L ≤ 4096) (hI : LI Z0 s Bc Bm Sc Sm H locs cells slots) (hl : lv_has ls 4 [(0, .ref b), (1, .ref (za Bc 0)), (2, .ref (za Bm 0)), (3, .int (nI i))]) (K : Kont p l e s m below meth c b i Z0 Q) : W p l e room_1 s m #[Value.ref b] below meth c H locs cells slots Q (F0 m 538 ls []) := by
  obtain ⟨hx, hb, hml, hown, hts⟩ := id G.1
  have hT := hI.two
  obtain ⟨⟨r, S2⟩, ⟨r', S3⟩, e1, e2, er, eR⟩ := M_turnsGo hI.rel (xs (i + 1))
  have er : r = r' := er
  have eR : (Rel (Sc 0)) S2 S3 := eR
  subst er
  refine lv_aload_n hx hb dL_law_538 rfl (lv_at hl 1 rfl) ?_
  refine ga hx hb hX hbl hT.2.2 hi hL hl 1 (by decide) (by decide) dL_law_539 dL_law_540 dL_law_541 dL_law_542 dL_law_543 ?_
  refine kVi (Z := wX Bc (cel Bm Sm)) (rest := []) (hI.gc G hA hT) hT.c (wX11_turnsGo hI.hC Sc (xs (i + 1)) r S2 hI.h0 e1) cwL_60 hI.h0 KX11 ⟨Nat.le_of_ble_eq_true rfl, Nat.le_of_ble_eq_true rfl⟩ rfl hl.1 rfl (Nat.le_of_ble_eq_true rfl) hI.room dL_law_544 (fun H locs hw => ?_)
  have hT := hT.c' hw
  refine lv_aload_n hx hb dL_law_547 rfl (lv_at hl 2 rfl) ?_
  refine ga hx hb hX hbl hT.2.2 hi hL hl 1 (by decide) (by decide) dL_law_548 dL_law_549 dL_law_550 dL_law_551 dL_law_552 ?_
  refine kVi (Z := wX Bm (cel Bc S2)) (rest := [.int r]) (hI.gm G hA hT) (hT.m hI.dd) (wX12_turnsGo hI.hM Sm (xs (i + 1)) r S3 e2) cwL_63 (m_this hI.hM) KX12 ⟨Nat.le_of_ble_eq_true rfl, Nat.le_of_ble_eq_true rfl⟩ rfl hl.1 rfl (Nat.le_of_ble_eq_true rfl) hI.room dL_law_553 (fun H locs hw => ?_)
  have hT := hT.m' hI.dd hw
  exact lv_icmp_eq (tgt := 1671) hx hb dL_law_556 (by decide) (fun _ => K _ _ _ _ _ _ _ _ _ (hI.next hT eR) hl) (fun q => absurd rfl q)
set_option maxRecDepth 100000 in
set_option maxHeartbeats 4000000 in
theorem lc_meet (G : Cx p s m #[Value.ref b] c RL cL_law 4 Z0) (hA : pA Z0 s.heap.size = A0 s) (hX : va_X b L xs s s.heap) (hbl : b < s.heap.size) (hi : i + 8 ≤ L) (hL : L ≤ 4096) (hI : LI Z0 s Bc Bm Sc Sm H locs cells slots) (hl : lv_has ls 4 [(0, .ref b), (1, .ref (za Bc 0)), (2, .ref (za Bm 0)), (3, .int (nI i))]) (K : Kont p l e s m below meth c b i Z0 Q) : W p l e room_1 s m #[Value.ref b] below meth c H locs cells slots Q (F0 m 561 ls []) := by
  obtain ⟨hx, hb, hml, hown, hts⟩ := id G.1
  have hT := hI.two
  obtain ⟨S2, S3, e1, e2, eR⟩ := M_meet hI.rel
  refine lv_aload_n hx hb dL_law_561 rfl (lv_at hl 1 rfl) ?_
  refine kVv (Z := wX Bc (cel Bm Sm)) (rest := []) (hI.gc G hA hT) hT.c (wX11_meet hI.hC Sc S2 hI.h0 e1) cwL_64 hI.h0 KX11 ⟨Nat.le_of_ble_eq_true rfl, Nat.le_of_ble_eq_true rfl⟩ rfl hl.1 rfl (Nat.le_of_ble_eq_true rfl) hI.room dL_law_562 (fun H locs hw => ?_)
  have hT := hT.c' hw
  refine lv_aload_n hx hb dL_law_565 rfl (lv_at hl 2 rfl) ?_
  refine kVv (Z := wX Bm (cel Bc S2)) (rest := []) (hI.gm G hA hT) (hT.m hI.dd) (wX12_meet hI.hM Sm S3 e2) cwL_67 (m_this hI.hM) KX12 ⟨Nat.le_of_ble_eq_true rfl, Nat.le_of_ble_eq_true rfl⟩ rfl hl.1 rfl (Nat.le_of_ble_eq_true rfl) hI.room dL_law_566 (fun H locs hw => ?_)
  have hT := hT.m' hI.dd hw
  exact lv_goto (tgt := 1671) hx hb dL_law_569 (by decide) (K _ _ _ _ _ _ _ _ _ (hI.next hT eR) hl)
set_option maxRecDepth 100000 in
set_option maxHeartbeats 4000000 in
theorem lc_days (G : Cx p s m #[Value.ref b] c RL cL_law 4 Z0) (hA : pA Z0 s.heap.size = A0 s) (hX : va_X b L xs s s.heap) (hbl : b < s.heap.size) (hi : i + 8 ≤ L) (hL : L ≤ 4096) (hI : LI Z0 s Bc Bm Sc Sm H locs cells slots) (hl : lv_has ls 4 [(0, .ref b), (1, .ref (za Bc 0)), (2, .ref (za Bm 0)), (3, .int (nI i))]) (K : Kont p l e s m below meth c b i Z0 Q) : W p l e room_1 s m #[Value.ref b] below meth c H locs cells slots Q (F0 m 572 ls []) := by
  obtain ⟨hx, hb, hml, hown, hts⟩ := id G.1
  have hT := hI.two
  obtain ⟨⟨r, S2⟩, ⟨r', S3⟩, e1, e2, er, eR⟩ := M_days hI.rel (xs (i + 1))
  have er : r = r' := er
  have eR : (Rel (Sc 0)) S2 S3 := eR
  subst er
  refine lv_aload_n hx hb dL_law_572 rfl (lv_at hl 1 rfl) ?_
  refine ga hx hb hX hbl hT.2.2 hi hL hl 1 (by decide) (by decide) dL_law_573 dL_law_574 dL_law_575 dL_law_576 dL_law_577 ?_
  refine kVi (Z := wX Bc (cel Bm Sm)) (rest := []) (hI.gc G hA hT) hT.c (wX11_days hI.hC Sc (xs (i + 1)) r S2 hI.h0 e1) cwL_68 hI.h0 KX11 ⟨Nat.le_of_ble_eq_true rfl, Nat.le_of_ble_eq_true rfl⟩ rfl hl.1 rfl (Nat.le_of_ble_eq_true rfl) hI.room dL_law_578 (fun H locs hw => ?_)
  have hT := hT.c' hw
  refine lv_aload_n hx hb dL_law_581 rfl (lv_at hl 2 rfl) ?_
  refine ga hx hb hX hbl hT.2.2 hi hL hl 1 (by decide) (by decide) dL_law_582 dL_law_583 dL_law_584 dL_law_585 dL_law_586 ?_
  refine kVi (Z := wX Bm (cel Bc S2)) (rest := [.int r]) (hI.gm G hA hT) (hT.m hI.dd) (wX12_days hI.hM Sm (xs (i + 1)) r S3 e2) cwL_71 (m_this hI.hM) KX12 ⟨Nat.le_of_ble_eq_true rfl, Nat.le_of_ble_eq_true rfl⟩ rfl hl.1 rfl (Nat.le_of_ble_eq_true rfl) hI.room dL_law_587 (fun H locs hw => ?_)
  have hT := hT.m' hI.dd hw
  exact lv_icmp_eq (tgt := 1671) hx hb dL_law_590 (by decide) (fun _ => K _ _ _ _ _ _ _ _ _ (hI.next hT eR) hl) (fun q => absurd rfl q)
set_option maxRecDepth 100000 in
set_option maxHeartbeats 4000000 in
theorem lc_of (G : Cx p s m #[Value.ref b] c RL cL_law 4 Z0) (hA : pA Z0 s.heap.size = A0 s) (hX : va_X b L xs s s.heap) (hbl : b < s.heap.size) (hi : i + 8 ≤ L) (hL : L ≤ 4096) (hI : LI Z0 s Bc Bm Sc Sm H locs cells slots) (hl : lv_has ls 4 [(0, .ref b), (1, .ref (za Bc 0)), (2, .ref (za Bm 0)), (3, .int (nI i))]) (K : Kont p l e s m below meth c b i Z0 Q) : W p l e room_1 s m #[Value.ref b] below meth c H locs cells slots Q (F0 m 595 ls []) := by
  obtain ⟨hx, hb, hml, hown, hts⟩ := id G.1
  have hT := hI.two
  obtain ⟨r, r', e1, e2, er⟩ := M_of hI.rel (xs (i + 1)) (xs (i + 2))
  have er : r = r' := er
  subst er
  refine lv_aload_n hx hb dL_law_595 rfl (lv_at hl 1 rfl) ?_
  refine ga hx hb hX hbl hT.2.2 hi hL hl 1 (by decide) (by decide) dL_law_596 dL_law_597 dL_law_598 dL_law_599 dL_law_600 ?_
  refine ga hx hb hX hbl hT.2.2 hi hL hl 2 (by decide) (by decide) dL_law_601 dL_law_602 dL_law_603 dL_law_604 dL_law_605 ?_
  refine kVi (Z := wX Bc (cel Bm Sm)) (rest := []) (hI.gc G hA hT) hT.c (wX11_of hI.hC Sc (xs (i + 1)) (xs (i + 2)) r hI.h0 e1) cwL_72 hI.h0 KX11 ⟨Nat.le_of_ble_eq_true rfl, Nat.le_of_ble_eq_true rfl⟩ rfl hl.1 rfl (Nat.le_of_ble_eq_true rfl) hI.room dL_law_606 (fun H locs hw => ?_)
  have hT := hT.c' hw
  refine lv_aload_n hx hb dL_law_609 rfl (lv_at hl 2 rfl) ?_
  refine ga hx hb hX hbl hT.2.2 hi hL hl 1 (by decide) (by decide) dL_law_610 dL_law_611 dL_law_612 dL_law_613 dL_law_614 ?_
  refine ga hx hb hX hbl hT.2.2 hi hL hl 2 (by decide) (by decide) dL_law_615 dL_law_616 dL_law_617 dL_law_618 dL_law_619 ?_
  refine kVi (Z := wX Bm (cel Bc Sc)) (rest := [.int r]) (hI.gm G hA hT) (hT.m hI.dd) (wX12_of hI.hM Sm (xs (i + 1)) (xs (i + 2)) r e2) cwL_75 (m_this hI.hM) KX12 ⟨Nat.le_of_ble_eq_true rfl, Nat.le_of_ble_eq_true rfl⟩ rfl hl.1 rfl (Nat.le_of_ble_eq_true rfl) hI.room dL_law_620 (fun H locs hw => ?_)
  have hT := hT.m' hI.dd hw
  exact lv_icmp_eq (tgt := 1671) hx hb dL_law_623 (by decide) (fun _ => K _ _ _ _ _ _ _ _ _ (hI.same hT) hl) (fun q => absurd rfl q)
set_option maxRecDepth 100000 in
set_option maxHeartbeats 4000000 in
theorem lc_at (G : Cx p s m #[Value.ref b] c RL cL_law 4 Z0) (hA : pA Z0 s.heap.size = A0 s) (hX : va_X b L xs s s.heap) (hbl : b < s.heap.size) (hi : i + 8 ≤ L) (hL : L ≤ 4096) (hI : LI Z0 s Bc Bm Sc Sm H locs cells slots) (hl : lv_has ls 4 [(0, .ref b), (1, .ref (za Bc 0)), (2, .ref (za Bm 0)), (3, .int (nI i))]) (K : Kont p l e s m below meth c b i Z0 Q) : W p l e room_1 s m #[Value.ref b] below meth c H locs cells slots Q (F0 m 628 ls []) := by
  obtain ⟨hx, hb, hml, hown, hts⟩ := id G.1
  have hT := hI.two
  obtain ⟨r, r', e1, e2, er⟩ := M_at hI.rel (xs (i + 1)) (xs (i + 2))
  have er : r = r' := er
  subst er
  refine lv_aload_n hx hb dL_law_628 rfl (lv_at hl 1 rfl) ?_
  refine ga hx hb hX hbl hT.2.2 hi hL hl 1 (by decide) (by decide) dL_law_629 dL_law_630 dL_law_631 dL_law_632 dL_law_633 ?_
  refine ga hx hb hX hbl hT.2.2 hi hL hl 2 (by decide) (by decide) dL_law_634 dL_law_635 dL_law_636 dL_law_637 dL_law_638 ?_
  refine kVi (Z := wX Bc (cel Bm Sm)) (rest := []) (hI.gc G hA hT) hT.c (wX11_at hI.hC Sc (xs (i + 1)) (xs (i + 2)) r hI.h0 e1) cwL_76 hI.h0 KX11 ⟨Nat.le_of_ble_eq_true rfl, Nat.le_of_ble_eq_true rfl⟩ rfl hl.1 rfl (Nat.le_of_ble_eq_true rfl) hI.room dL_law_639 (fun H locs hw => ?_)
  have hT := hT.c' hw
  refine lv_aload_n hx hb dL_law_642 rfl (lv_at hl 2 rfl) ?_
  refine ga hx hb hX hbl hT.2.2 hi hL hl 1 (by decide) (by decide) dL_law_643 dL_law_644 dL_law_645 dL_law_646 dL_law_647 ?_
  refine ga hx hb hX hbl hT.2.2 hi hL hl 2 (by decide) (by decide) dL_law_648 dL_law_649 dL_law_650 dL_law_651 dL_law_652 ?_
  refine kVi (Z := wX Bm (cel Bc Sc)) (rest := [.int r]) (hI.gm G hA hT) (hT.m hI.dd) (wX12_at hI.hM Sm (xs (i + 1)) (xs (i + 2)) r e2) cwL_79 (m_this hI.hM) KX12 ⟨Nat.le_of_ble_eq_true rfl, Nat.le_of_ble_eq_true rfl⟩ rfl hl.1 rfl (Nat.le_of_ble_eq_true rfl) hI.room dL_law_653 (fun H locs hw => ?_)
  have hT := hT.m' hI.dd hw
  exact lv_icmp_eq (tgt := 1671) hx hb dL_law_656 (by decide) (fun _ => K _ _ _ _ _ _ _ _ _ (hI.same hT) hl) (fun q => absurd rfl q)
set_option maxRecDepth 100000 in
set_option maxHeartbeats 4000000 in
theorem lc_book (G : Cx p s m #[Value.ref b] c RL cL_law 4 Z0) (hA : pA Z0 s.heap.size = A0 s) (hX : va_X b L xs s s.heap) (hbl : b < s.heap.size) (hi : i + 8 ≤ L) (hL : L ≤ 4096) (hI : LI Z0 s Bc Bm Sc Sm H locs cells slots) (hl : lv_has ls 4 [(0, .ref b), (1, .ref (za Bc 0)), (2, .ref (za Bm 0)), (3, .int (nI i))]) (K : Kont p l e s m below meth c b i Z0 Q) : W p l e room_1 s m #[Value.ref b] below meth c H locs cells slots Q (F0 m 661 ls []) := by
  obtain ⟨hx, hb, hml, hown, hts⟩ := id G.1
  have hT := hI.two
  obtain ⟨r, r', e1, e2, er⟩ := M_book hI.rel (xs (i + 1)) (xs (i + 2))
  have er : r = r' := er
  subst er
  refine lv_aload_n hx hb dL_law_661 rfl (lv_at hl 1 rfl) ?_
  refine ga hx hb hX hbl hT.2.2 hi hL hl 1 (by decide) (by decide) dL_law_662 dL_law_663 dL_law_664 dL_law_665 dL_law_666 ?_
  refine ga hx hb hX hbl hT.2.2 hi hL hl 2 (by decide) (by decide) dL_law_667 dL_law_668 dL_law_669 dL_law_670 dL_law_671 ?_
  refine kVi (Z := wX Bc (cel Bm Sm)) (rest := []) (hI.gc G hA hT) hT.c (wX11_book hI.hC Sc (xs (i + 1)) (xs (i + 2)) r hI.h0 e1) cwL_80 hI.h0 KX11 ⟨Nat.le_of_ble_eq_true rfl, Nat.le_of_ble_eq_true rfl⟩ rfl hl.1 rfl (Nat.le_of_ble_eq_true rfl) hI.room dL_law_672 (fun H locs hw => ?_)
  have hT := hT.c' hw
  refine lv_aload_n hx hb dL_law_675 rfl (lv_at hl 2 rfl) ?_
  refine ga hx hb hX hbl hT.2.2 hi hL hl 1 (by decide) (by decide) dL_law_676 dL_law_677 dL_law_678 dL_law_679 dL_law_680 ?_
  refine ga hx hb hX hbl hT.2.2 hi hL hl 2 (by decide) (by decide) dL_law_681 dL_law_682 dL_law_683 dL_law_684 dL_law_685 ?_
  refine kVi (Z := wX Bm (cel Bc Sc)) (rest := [.int r]) (hI.gm G hA hT) (hT.m hI.dd) (wX12_book hI.hM Sm (xs (i + 1)) (xs (i + 2)) r e2) cwL_83 (m_this hI.hM) KX12 ⟨Nat.le_of_ble_eq_true rfl, Nat.le_of_ble_eq_true rfl⟩ rfl hl.1 rfl (Nat.le_of_ble_eq_true rfl) hI.room dL_law_686 (fun H locs hw => ?_)
  have hT := hT.m' hI.dd hw
  exact lv_icmp_eq (tgt := 1671) hx hb dL_law_689 (by decide) (fun _ => K _ _ _ _ _ _ _ _ _ (hI.same hT) hl) (fun q => absurd rfl q)
set_option maxRecDepth 100000 in
set_option maxHeartbeats 4000000 in
theorem lc_fly (G : Cx p s m #[Value.ref b] c RL cL_law 4 Z0) (hA : pA Z0 s.heap.size = A0 s) (hX : va_X b L xs s s.heap) (hbl : b < s.heap.size) (hi : i + 8 ≤ L) (hL : L ≤ 4096) (hI : LI Z0 s Bc Bm Sc Sm H locs cells slots) (hl : lv_has ls 4 [(0, .ref b), (1, .ref (za Bc 0)), (2, .ref (za Bm 0)), (3, .int (nI i))]) (K : Kont p l e s m below meth c b i Z0 Q) : W p l e room_1 s m #[Value.ref b] below meth c H locs cells slots Q (F0 m 694 ls []) := by
  obtain ⟨hx, hb, hml, hown, hts⟩ := id G.1
  have hT := hI.two
  obtain ⟨⟨r, S2⟩, ⟨r', S3⟩, e1, e2, er, eR⟩ := M_fly hI.rel (xs (i + 1)) (xs (i + 2)) (xs (i + 3)) (xs (i + 4)) (xs (i + 5)) (xs (i + 6)) (xs (i + 7))
  have er : r = r' := er
  have eR : (Rel (Sc 0)) S2 S3 := eR
  subst er
  refine lv_aload_n hx hb dL_law_694 rfl (lv_at hl 1 rfl) ?_
  refine ga hx hb hX hbl hT.2.2 hi hL hl 1 (by decide) (by decide) dL_law_695 dL_law_696 dL_law_697 dL_law_698 dL_law_699 ?_
  refine ga hx hb hX hbl hT.2.2 hi hL hl 2 (by decide) (by decide) dL_law_700 dL_law_701 dL_law_702 dL_law_703 dL_law_704 ?_
  refine ga hx hb hX hbl hT.2.2 hi hL hl 3 (by decide) (by decide) dL_law_705 dL_law_706 dL_law_707 dL_law_708 dL_law_709 ?_
  refine ga hx hb hX hbl hT.2.2 hi hL hl 4 (by decide) (by decide) dL_law_710 dL_law_711 dL_law_712 dL_law_713 dL_law_714 ?_
  refine ga hx hb hX hbl hT.2.2 hi hL hl 5 (by decide) (by decide) dL_law_715 dL_law_716 dL_law_717 dL_law_718 dL_law_719 ?_
  refine gb hx hb hX hbl hT.2.2 hi hL hl 6 (by decide) (by decide) dL_law_720 dL_law_721 dL_law_722 dL_law_724 dL_law_725 ?_
  refine gb hx hb hX hbl hT.2.2 hi hL hl 7 (by decide) (by decide) dL_law_726 dL_law_727 dL_law_728 dL_law_730 dL_law_731 ?_
  refine kVi (Z := wX Bc (cel Bm Sm)) (rest := []) (hI.gc G hA hT) hT.c (wX11_fly hI.hC Sc (xs (i + 1)) (xs (i + 2)) (xs (i + 3)) (xs (i + 4)) (xs (i + 5)) (xs (i + 6)) (xs (i + 7)) r S2 hI.h0 e1) cwL_84 hI.h0 KX11 ⟨Nat.le_of_ble_eq_true rfl, Nat.le_of_ble_eq_true rfl⟩ rfl hl.1 rfl (Nat.le_of_ble_eq_true rfl) hI.room dL_law_732 (fun H locs hw => ?_)
  have hT := hT.c' hw
  refine lv_aload_n hx hb dL_law_735 rfl (lv_at hl 2 rfl) ?_
  refine ga hx hb hX hbl hT.2.2 hi hL hl 1 (by decide) (by decide) dL_law_736 dL_law_737 dL_law_738 dL_law_739 dL_law_740 ?_
  refine ga hx hb hX hbl hT.2.2 hi hL hl 2 (by decide) (by decide) dL_law_741 dL_law_742 dL_law_743 dL_law_744 dL_law_745 ?_
  refine ga hx hb hX hbl hT.2.2 hi hL hl 3 (by decide) (by decide) dL_law_746 dL_law_747 dL_law_748 dL_law_749 dL_law_750 ?_
  refine ga hx hb hX hbl hT.2.2 hi hL hl 4 (by decide) (by decide) dL_law_751 dL_law_752 dL_law_753 dL_law_754 dL_law_755 ?_
  refine ga hx hb hX hbl hT.2.2 hi hL hl 5 (by decide) (by decide) dL_law_756 dL_law_757 dL_law_758 dL_law_759 dL_law_760 ?_
  refine gb hx hb hX hbl hT.2.2 hi hL hl 6 (by decide) (by decide) dL_law_761 dL_law_762 dL_law_763 dL_law_765 dL_law_766 ?_
  refine gb hx hb hX hbl hT.2.2 hi hL hl 7 (by decide) (by decide) dL_law_767 dL_law_768 dL_law_769 dL_law_771 dL_law_772 ?_
  refine kVi (Z := wX Bm (cel Bc S2)) (rest := [.int r]) (hI.gm G hA hT) (hT.m hI.dd) (wX12_fly hI.hM Sm (xs (i + 1)) (xs (i + 2)) (xs (i + 3)) (xs (i + 4)) (xs (i + 5)) (xs (i + 6)) (xs (i + 7)) r S3 e2) cwL_88 (m_this hI.hM) KX12 ⟨Nat.le_of_ble_eq_true rfl, Nat.le_of_ble_eq_true rfl⟩ rfl hl.1 rfl (Nat.le_of_ble_eq_true rfl) hI.room dL_law_773 (fun H locs hw => ?_)
  have hT := hT.m' hI.dd hw
  exact lv_icmp_eq (tgt := 1671) hx hb dL_law_776 (by decide) (fun _ => K _ _ _ _ _ _ _ _ _ (hI.next hT eR) hl) (fun q => absurd rfl q)
set_option maxRecDepth 100000 in
set_option maxHeartbeats 4000000 in
theorem lc_angle (G : Cx p s m #[Value.ref b] c RL cL_law 4 Z0) (hA : pA Z0 s.heap.size = A0 s) (hX : va_X b L xs s s.heap) (hbl : b < s.heap.size) (hi : i + 8 ≤ L) (hL : L ≤ 4096) (hI : LI Z0 s Bc Bm Sc Sm H locs cells slots) (hl : lv_has ls 4 [(0, .ref b), (1, .ref (za Bc 0)), (2, .ref (za Bm 0)), (3, .int (nI i))]) (K : Kont p l e s m below meth c b i Z0 Q) : W p l e room_1 s m #[Value.ref b] below meth c H locs cells slots Q (F0 m 781 ls []) := by
  obtain ⟨hx, hb, hml, hown, hts⟩ := id G.1
  have hT := hI.two
  obtain ⟨⟨r, S2⟩, ⟨r', S3⟩, e1, e2, er, eR⟩ := M_angle hI.rel (xs (i + 1)) (xs (i + 2)) (xs (i + 3)) (xs (i + 4))
  have er : r = r' := er
  have eR : (Rel (Sc 0)) S2 S3 := eR
  subst er
  refine lv_aload_n hx hb dL_law_781 rfl (lv_at hl 1 rfl) ?_
  refine ga hx hb hX hbl hT.2.2 hi hL hl 1 (by decide) (by decide) dL_law_782 dL_law_783 dL_law_784 dL_law_785 dL_law_786 ?_
  refine ga hx hb hX hbl hT.2.2 hi hL hl 2 (by decide) (by decide) dL_law_787 dL_law_788 dL_law_789 dL_law_790 dL_law_791 ?_
  refine ga hx hb hX hbl hT.2.2 hi hL hl 3 (by decide) (by decide) dL_law_792 dL_law_793 dL_law_794 dL_law_795 dL_law_796 ?_
  refine ga hx hb hX hbl hT.2.2 hi hL hl 4 (by decide) (by decide) dL_law_797 dL_law_798 dL_law_799 dL_law_800 dL_law_801 ?_
  refine kVi (Z := wX Bc (cel Bm Sm)) (rest := []) (hI.gc G hA hT) hT.c (wX11_angle hI.hC Sc (xs (i + 1)) (xs (i + 2)) (xs (i + 3)) (xs (i + 4)) r S2 hI.h0 e1) cwL_89 hI.h0 KX11 ⟨Nat.le_of_ble_eq_true rfl, Nat.le_of_ble_eq_true rfl⟩ rfl hl.1 rfl (Nat.le_of_ble_eq_true rfl) hI.room dL_law_802 (fun H locs hw => ?_)
  have hT := hT.c' hw
  refine lv_aload_n hx hb dL_law_805 rfl (lv_at hl 2 rfl) ?_
  refine ga hx hb hX hbl hT.2.2 hi hL hl 1 (by decide) (by decide) dL_law_806 dL_law_807 dL_law_808 dL_law_809 dL_law_810 ?_
  refine ga hx hb hX hbl hT.2.2 hi hL hl 2 (by decide) (by decide) dL_law_811 dL_law_812 dL_law_813 dL_law_814 dL_law_815 ?_
  refine ga hx hb hX hbl hT.2.2 hi hL hl 3 (by decide) (by decide) dL_law_816 dL_law_817 dL_law_818 dL_law_819 dL_law_820 ?_
  refine ga hx hb hX hbl hT.2.2 hi hL hl 4 (by decide) (by decide) dL_law_821 dL_law_822 dL_law_823 dL_law_824 dL_law_825 ?_
  refine kVi (Z := wX Bm (cel Bc S2)) (rest := [.int r]) (hI.gm G hA hT) (hT.m hI.dd) (wX12_angle hI.hM Sm (xs (i + 1)) (xs (i + 2)) (xs (i + 3)) (xs (i + 4)) r S3 e2) cwL_92 (m_this hI.hM) KX12 ⟨Nat.le_of_ble_eq_true rfl, Nat.le_of_ble_eq_true rfl⟩ rfl hl.1 rfl (Nat.le_of_ble_eq_true rfl) hI.room dL_law_826 (fun H locs hw => ?_)
  have hT := hT.m' hI.dd hw
  exact lv_icmp_eq (tgt := 1671) hx hb dL_law_829 (by decide) (fun _ => K _ _ _ _ _ _ _ _ _ (hI.next hT eR) hl) (fun q => absurd rfl q)
set_option maxRecDepth 100000 in
set_option maxHeartbeats 4000000 in
theorem lc_right (G : Cx p s m #[Value.ref b] c RL cL_law 4 Z0) (hA : pA Z0 s.heap.size = A0 s) (hX : va_X b L xs s s.heap) (hbl : b < s.heap.size) (hi : i + 8 ≤ L) (hL : L ≤ 4096) (hI : LI Z0 s Bc Bm Sc Sm H locs cells slots) (hl : lv_has ls 4 [(0, .ref b), (1, .ref (za Bc 0)), (2, .ref (za Bm 0)), (3, .int (nI i))]) (K : Kont p l e s m below meth c b i Z0 Q) : W p l e room_1 s m #[Value.ref b] below meth c H locs cells slots Q (F0 m 834 ls []) := by
  obtain ⟨hx, hb, hml, hown, hts⟩ := id G.1
  have hT := hI.two
  obtain ⟨⟨r, S2⟩, ⟨r', S3⟩, e1, e2, er, eR⟩ := M_right hI.rel (xs (i + 1)) (xs (i + 2))
  have er : r = r' := er
  have eR : (Rel (Sc 0)) S2 S3 := eR
  subst er
  refine lv_aload_n hx hb dL_law_834 rfl (lv_at hl 1 rfl) ?_
  refine ga hx hb hX hbl hT.2.2 hi hL hl 1 (by decide) (by decide) dL_law_835 dL_law_836 dL_law_837 dL_law_838 dL_law_839 ?_
  refine ga hx hb hX hbl hT.2.2 hi hL hl 2 (by decide) (by decide) dL_law_840 dL_law_841 dL_law_842 dL_law_843 dL_law_844 ?_
  refine kVi (Z := wX Bc (cel Bm Sm)) (rest := []) (hI.gc G hA hT) hT.c (wX11_right hI.hC Sc (xs (i + 1)) (xs (i + 2)) r S2 hI.h0 e1) cwL_93 hI.h0 KX11 ⟨Nat.le_of_ble_eq_true rfl, Nat.le_of_ble_eq_true rfl⟩ rfl hl.1 rfl (Nat.le_of_ble_eq_true rfl) hI.room dL_law_845 (fun H locs hw => ?_)
  have hT := hT.c' hw
  refine lv_aload_n hx hb dL_law_848 rfl (lv_at hl 2 rfl) ?_
  refine ga hx hb hX hbl hT.2.2 hi hL hl 1 (by decide) (by decide) dL_law_849 dL_law_850 dL_law_851 dL_law_852 dL_law_853 ?_
  refine ga hx hb hX hbl hT.2.2 hi hL hl 2 (by decide) (by decide) dL_law_854 dL_law_855 dL_law_856 dL_law_857 dL_law_858 ?_
  refine kVi (Z := wX Bm (cel Bc S2)) (rest := [.int r]) (hI.gm G hA hT) (hT.m hI.dd) (wX12_right hI.hM Sm (xs (i + 1)) (xs (i + 2)) r S3 e2) cwL_96 (m_this hI.hM) KX12 ⟨Nat.le_of_ble_eq_true rfl, Nat.le_of_ble_eq_true rfl⟩ rfl hl.1 rfl (Nat.le_of_ble_eq_true rfl) hI.room dL_law_859 (fun H locs hw => ?_)
  have hT := hT.m' hI.dd hw
  exact lv_icmp_eq (tgt := 1671) hx hb dL_law_862 (by decide) (fun _ => K _ _ _ _ _ _ _ _ _ (hI.next hT eR) hl) (fun q => absurd rfl q)
end LC
