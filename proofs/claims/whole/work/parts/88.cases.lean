theorem l_cmp (r : Int64) : lg_cmp r r = 0 := by
  unfold lg_cmp
  simp
set_option maxRecDepth 100000 in
set_option maxHeartbeats 4000000 in
theorem lc_0 {p : Program} {l : Launch} {e : Env} {s : State} {m : MethodId} {below : List Frame} {meth : Method} {c : Code} {H : Heap} {locs : List Loc} {cells slots : Nat} {Q : State → Prop} {ls : Array Slot} {D : va_G} {tc : Nat → ClassId} {E : (Nat → Nat) × (Nat → Nat) × Nat} {h0 b L n : Nat} {xs : Nat → Int32} {gC gM : c_G} (C0 : l_C p s m c D tc h0 E b L xs) (hn : n + 6 ≤ L) (hcr : cells ≤ room_1.cells) (hsr : slots ≤ room_1.slots) (I0 : l_I s D tc h0 b n gC gM H locs ls) (kk : l_K p l e s m below meth c D tc h0 b cells slots Q n) : W p l e room_1 s m #[Value.ref b] below meth c H locs cells slots Q (F0 m 192 ls []) := by
  obtain ⟨hx, hb, hml, hown, hts, hK, hE, hX, hbl, hh, hL⟩ := id C0
  obtain ⟨hPC, hPM, hS, hl, hR⟩ := I0
  obtain ⟨gC2, gM2, r, f1, f2, hR2⟩ := e_childC hR (xs (n + 1)) (xs (n + 2)) (xs (n + 3))
  have hbA : ¬ n_A h0 b := by unfold n_A; omega
  refine lv_aload_n hx hb dL_law_192 rfl (lv_at hl 2 rfl) ?_
  refine l_rd hx hb hX hbl hbA hS hn hL 1 (by decide) hl (by decide) dL_law_193 dL_law_194 dL_law_195 dL_law_196 dL_law_197 ?_
  refine l_rd hx hb hX hbl hbA hS hn hL 2 (by decide) hl (by decide) dL_law_198 dL_law_199 dL_law_200 dL_law_201 dL_law_202 ?_
  refine l_rd hx hb hX hbl hbA hS hn hL 3 (by decide) hl (by decide) dL_law_203 dL_law_204 dL_law_205 dL_law_206 dL_law_207 ?_
  refine l_goi (va_runV (As := [.int (xs (n + 1)), .int (xs (n + 2)), .int (xs (n + 3))]) (rest := []) ⟨hx, hb, hml, hown, hts⟩ (kX11_child (l_D1 h0) f1) (cwV 3 hts gL_law_X11_child rfl rfl rfl (by decide +kernel) ⟨Nat.le_of_ble_eq_true rfl, Nat.le_of_ble_eq_true rfl⟩) (l_preV hK hPC hE hS l_s1 tC0 rfl) rfl rfl hl.1 rfl (lv_room (Nat.le_of_ble_eq_true rfl)) dL_law_208 ⟨hcr, hsr⟩) hS l_s1 hPM l_n1 (fun H locs hPC hPM hS => ?_)
  refine lv_aload_n hx hb dL_law_211 rfl (lv_at hl 1 rfl) ?_
  refine l_rd hx hb hX hbl hbA hS hn hL 1 (by decide) hl (by decide) dL_law_212 dL_law_213 dL_law_214 dL_law_215 dL_law_216 ?_
  refine l_rd hx hb hX hbl hbA hS hn hL 2 (by decide) hl (by decide) dL_law_217 dL_law_218 dL_law_219 dL_law_220 dL_law_221 ?_
  refine l_rd hx hb hX hbl hbA hS hn hL 3 (by decide) hl (by decide) dL_law_222 dL_law_223 dL_law_224 dL_law_225 dL_law_226 ?_
  refine l_goi (va_runV (As := [.int (xs (n + 1)), .int (xs (n + 2)), .int (xs (n + 3))]) (rest := [.int r]) ⟨hx, hb, hml, hown, hts⟩ (kX12_child (l_D2 h0) f2) (cwV 3 hts gL_law_X12_child rfl rfl rfl (by decide +kernel) ⟨Nat.le_of_ble_eq_true rfl, Nat.le_of_ble_eq_true rfl⟩) (l_preV hK hPM hE hS l_s2 tM0 rfl) rfl rfl hl.1 rfl (lv_room (Nat.le_of_ble_eq_true rfl)) dL_law_227 ⟨hcr, hsr⟩) hS l_s2 hPC l_n2 (fun H locs hPM hPC hS => ?_)
  refine lv_icmp_eq (tgt := 1383) hx hb dL_law_230 (by decide) (fun _ => ?_) (fun c9 => absurd rfl c9)
  exact l_next C0 hPC hPM hS hl hR2 kk
set_option maxRecDepth 100000 in
set_option maxHeartbeats 4000000 in
theorem lc_1 {p : Program} {l : Launch} {e : Env} {s : State} {m : MethodId} {below : List Frame} {meth : Method} {c : Code} {H : Heap} {locs : List Loc} {cells slots : Nat} {Q : State → Prop} {ls : Array Slot} {D : va_G} {tc : Nat → ClassId} {E : (Nat → Nat) × (Nat → Nat) × Nat} {h0 b L n : Nat} {xs : Nat → Int32} {gC gM : c_G} (C0 : l_C p s m c D tc h0 E b L xs) (hn : n + 6 ≤ L) (hcr : cells ≤ room_1.cells) (hsr : slots ≤ room_1.slots) (I0 : l_I s D tc h0 b n gC gM H locs ls) (kk : l_K p l e s m below meth c D tc h0 b cells slots Q n) : W p l e room_1 s m #[Value.ref b] below meth c H locs cells slots Q (F0 m 235 ls []) := by
  obtain ⟨hx, hb, hml, hown, hts, hK, hE, hX, hbl, hh, hL⟩ := id C0
  obtain ⟨hPC, hPM, hS, hl, hR⟩ := I0
  obtain ⟨gC2, gM2, r, f1, f2, hR2⟩ := e_ofC hR (xs (n + 1)) (xs (n + 2))
  have hbA : ¬ n_A h0 b := by unfold n_A; omega
  refine lv_aload_n hx hb dL_law_235 rfl (lv_at hl 2 rfl) ?_
  refine l_rd hx hb hX hbl hbA hS hn hL 1 (by decide) hl (by decide) dL_law_236 dL_law_237 dL_law_238 dL_law_239 dL_law_240 ?_
  refine l_rd hx hb hX hbl hbA hS hn hL 2 (by decide) hl (by decide) dL_law_241 dL_law_242 dL_law_243 dL_law_244 dL_law_245 ?_
  refine l_goi (va_runV (As := [.int (xs (n + 1)), .int (xs (n + 2))]) (rest := []) ⟨hx, hb, hml, hown, hts⟩ (kX11_of (l_D1 h0) f1) (cwV 2 hts gL_law_X11_of rfl rfl rfl (by decide +kernel) ⟨Nat.le_of_ble_eq_true rfl, Nat.le_of_ble_eq_true rfl⟩) (l_preV hK hPC hE hS l_s1 tC0 rfl) rfl rfl hl.1 rfl (lv_room (Nat.le_of_ble_eq_true rfl)) dL_law_246 ⟨hcr, hsr⟩) hS l_s1 hPM l_n1 (fun H locs hPC hPM hS => ?_)
  refine lv_aload_n hx hb dL_law_249 rfl (lv_at hl 1 rfl) ?_
  refine l_rd hx hb hX hbl hbA hS hn hL 1 (by decide) hl (by decide) dL_law_250 dL_law_251 dL_law_252 dL_law_253 dL_law_254 ?_
  refine l_rd hx hb hX hbl hbA hS hn hL 2 (by decide) hl (by decide) dL_law_255 dL_law_256 dL_law_257 dL_law_258 dL_law_259 ?_
  refine l_goi (va_runV (As := [.int (xs (n + 1)), .int (xs (n + 2))]) (rest := [.int r]) ⟨hx, hb, hml, hown, hts⟩ (kX12_of_ (l_D2 h0) f2) (cwV 2 hts gL_law_X12_of_ rfl rfl rfl (by decide +kernel) ⟨Nat.le_of_ble_eq_true rfl, Nat.le_of_ble_eq_true rfl⟩) (l_preV hK hPM hE hS l_s2 tM0 rfl) rfl rfl hl.1 rfl (lv_room (Nat.le_of_ble_eq_true rfl)) dL_law_260 ⟨hcr, hsr⟩) hS l_s2 hPC l_n2 (fun H locs hPM hPC hS => ?_)
  refine lv_icmp_eq (tgt := 1383) hx hb dL_law_263 (by decide) (fun _ => ?_) (fun c9 => absurd rfl c9)
  exact l_next C0 hPC hPM hS hl hR2 kk
set_option maxRecDepth 100000 in
set_option maxHeartbeats 4000000 in
theorem lc_2 {p : Program} {l : Launch} {e : Env} {s : State} {m : MethodId} {below : List Frame} {meth : Method} {c : Code} {H : Heap} {locs : List Loc} {cells slots : Nat} {Q : State → Prop} {ls : Array Slot} {D : va_G} {tc : Nat → ClassId} {E : (Nat → Nat) × (Nat → Nat) × Nat} {h0 b L n : Nat} {xs : Nat → Int32} {gC gM : c_G} (C0 : l_C p s m c D tc h0 E b L xs) (hn : n + 6 ≤ L) (hcr : cells ≤ room_1.cells) (hsr : slots ≤ room_1.slots) (I0 : l_I s D tc h0 b n gC gM H locs ls) (kk : l_K p l e s m below meth c D tc h0 b cells slots Q n) : W p l e room_1 s m #[Value.ref b] below meth c H locs cells slots Q (F0 m 268 ls []) := by
  obtain ⟨hx, hb, hml, hown, hts, hK, hE, hX, hbl, hh, hL⟩ := id C0
  obtain ⟨hPC, hPM, hS, hl, hR⟩ := I0
  obtain ⟨gC2, gM2, r, f1, f2, hR2⟩ := e_elderC hR (xs (n + 1)) (xs (n + 2))
  have hbA : ¬ n_A h0 b := by unfold n_A; omega
  refine lv_aload_n hx hb dL_law_268 rfl (lv_at hl 2 rfl) ?_
  refine l_rd hx hb hX hbl hbA hS hn hL 1 (by decide) hl (by decide) dL_law_269 dL_law_270 dL_law_271 dL_law_272 dL_law_273 ?_
  refine l_rd hx hb hX hbl hbA hS hn hL 2 (by decide) hl (by decide) dL_law_274 dL_law_275 dL_law_276 dL_law_277 dL_law_278 ?_
  refine l_goi (va_runV (As := [.int (xs (n + 1)), .int (xs (n + 2))]) (rest := []) ⟨hx, hb, hml, hown, hts⟩ (kX11_elder (l_D1 h0) f1) (cwV 2 hts gL_law_X11_elder rfl rfl rfl (by decide +kernel) ⟨Nat.le_of_ble_eq_true rfl, Nat.le_of_ble_eq_true rfl⟩) (l_preV hK hPC hE hS l_s1 tC0 rfl) rfl rfl hl.1 rfl (lv_room (Nat.le_of_ble_eq_true rfl)) dL_law_279 ⟨hcr, hsr⟩) hS l_s1 hPM l_n1 (fun H locs hPC hPM hS => ?_)
  refine lv_aload_n hx hb dL_law_282 rfl (lv_at hl 1 rfl) ?_
  refine l_rd hx hb hX hbl hbA hS hn hL 1 (by decide) hl (by decide) dL_law_283 dL_law_284 dL_law_285 dL_law_286 dL_law_287 ?_
  refine l_rd hx hb hX hbl hbA hS hn hL 2 (by decide) hl (by decide) dL_law_288 dL_law_289 dL_law_290 dL_law_291 dL_law_292 ?_
  refine l_goi (va_runV (As := [.int (xs (n + 1)), .int (xs (n + 2))]) (rest := [.int r]) ⟨hx, hb, hml, hown, hts⟩ (kX12_elder (l_D2 h0) f2) (cwV 2 hts gL_law_X12_elder rfl rfl rfl (by decide +kernel) ⟨Nat.le_of_ble_eq_true rfl, Nat.le_of_ble_eq_true rfl⟩) (l_preV hK hPM hE hS l_s2 tM0 rfl) rfl rfl hl.1 rfl (lv_room (Nat.le_of_ble_eq_true rfl)) dL_law_293 ⟨hcr, hsr⟩) hS l_s2 hPC l_n2 (fun H locs hPM hPC hS => ?_)
  refine lv_icmp_eq (tgt := 1383) hx hb dL_law_296 (by decide) (fun _ => ?_) (fun c9 => absurd rfl c9)
  exact l_next C0 hPC hPM hS hl hR2 kk
set_option maxRecDepth 100000 in
set_option maxHeartbeats 4000000 in
theorem lc_3 {p : Program} {l : Launch} {e : Env} {s : State} {m : MethodId} {below : List Frame} {meth : Method} {c : Code} {H : Heap} {locs : List Loc} {cells slots : Nat} {Q : State → Prop} {ls : Array Slot} {D : va_G} {tc : Nat → ClassId} {E : (Nat → Nat) × (Nat → Nat) × Nat} {h0 b L n : Nat} {xs : Nat → Int32} {gC gM : c_G} (C0 : l_C p s m c D tc h0 E b L xs) (hn : n + 6 ≤ L) (hcr : cells ≤ room_1.cells) (hsr : slots ≤ room_1.slots) (I0 : l_I s D tc h0 b n gC gM H locs ls) (kk : l_K p l e s m below meth c D tc h0 b cells slots Q n) : W p l e room_1 s m #[Value.ref b] below meth c H locs cells slots Q (F0 m 301 ls []) := by
  obtain ⟨hx, hb, hml, hown, hts, hK, hE, hX, hbl, hh, hL⟩ := id C0
  obtain ⟨hPC, hPM, hS, hl, hR⟩ := I0
  obtain ⟨gC2, gM2, r, f1, f2, hR2⟩ := e_fits hR (xs (n + 1)) (xs (n + 2)) (xs (n + 3))
  have hbA : ¬ n_A h0 b := by unfold n_A; omega
  refine lv_aload_n hx hb dL_law_301 rfl (lv_at hl 2 rfl) ?_
  refine l_rd hx hb hX hbl hbA hS hn hL 1 (by decide) hl (by decide) dL_law_302 dL_law_303 dL_law_304 dL_law_305 dL_law_306 ?_
  refine l_rd hx hb hX hbl hbA hS hn hL 2 (by decide) hl (by decide) dL_law_307 dL_law_308 dL_law_309 dL_law_310 dL_law_311 ?_
  refine l_rd hx hb hX hbl hbA hS hn hL 3 (by decide) hl (by decide) dL_law_312 dL_law_313 dL_law_314 dL_law_315 dL_law_316 ?_
  refine l_goi (va_runV (As := [.int (xs (n + 1)), .int (xs (n + 2)), .int (xs (n + 3))]) (rest := []) ⟨hx, hb, hml, hown, hts⟩ (kX11_fits (l_D1 h0) f1) (cwV 3 hts gL_law_X11_fits rfl rfl rfl (by decide +kernel) ⟨Nat.le_of_ble_eq_true rfl, Nat.le_of_ble_eq_true rfl⟩) (l_preV hK hPC hE hS l_s1 tC0 rfl) rfl rfl hl.1 rfl (lv_room (Nat.le_of_ble_eq_true rfl)) dL_law_317 ⟨hcr, hsr⟩) hS l_s1 hPM l_n1 (fun H locs hPC hPM hS => ?_)
  refine lv_aload_n hx hb dL_law_320 rfl (lv_at hl 1 rfl) ?_
  refine l_rd hx hb hX hbl hbA hS hn hL 1 (by decide) hl (by decide) dL_law_321 dL_law_322 dL_law_323 dL_law_324 dL_law_325 ?_
  refine l_rd hx hb hX hbl hbA hS hn hL 2 (by decide) hl (by decide) dL_law_326 dL_law_327 dL_law_328 dL_law_329 dL_law_330 ?_
  refine l_rd hx hb hX hbl hbA hS hn hL 3 (by decide) hl (by decide) dL_law_331 dL_law_332 dL_law_333 dL_law_334 dL_law_335 ?_
  refine l_goi (va_runV (As := [.int (xs (n + 1)), .int (xs (n + 2)), .int (xs (n + 3))]) (rest := [.int r]) ⟨hx, hb, hml, hown, hts⟩ (kX12_fits (l_D2 h0) f2) (cwV 3 hts gL_law_X12_fits rfl rfl rfl (by decide +kernel) ⟨Nat.le_of_ble_eq_true rfl, Nat.le_of_ble_eq_true rfl⟩) (l_preV hK hPM hE hS l_s2 tM0 rfl) rfl rfl hl.1 rfl (lv_room (Nat.le_of_ble_eq_true rfl)) dL_law_336 ⟨hcr, hsr⟩) hS l_s2 hPC l_n2 (fun H locs hPM hPC hS => ?_)
  refine lv_icmp_eq (tgt := 1383) hx hb dL_law_339 (by decide) (fun _ => ?_) (fun c9 => absurd rfl c9)
  exact l_next C0 hPC hPM hS hl hR2 kk
set_option maxRecDepth 100000 in
set_option maxHeartbeats 4000000 in
theorem lc_4 {p : Program} {l : Launch} {e : Env} {s : State} {m : MethodId} {below : List Frame} {meth : Method} {c : Code} {H : Heap} {locs : List Loc} {cells slots : Nat} {Q : State → Prop} {ls : Array Slot} {D : va_G} {tc : Nat → ClassId} {E : (Nat → Nat) × (Nat → Nat) × Nat} {h0 b L n : Nat} {xs : Nat → Int32} {gC gM : c_G} (C0 : l_C p s m c D tc h0 E b L xs) (hn : n + 6 ≤ L) (hcr : cells ≤ room_1.cells) (hsr : slots ≤ room_1.slots) (I0 : l_I s D tc h0 b n gC gM H locs ls) (kk : l_K p l e s m below meth c D tc h0 b cells slots Q n) : W p l e room_1 s m #[Value.ref b] below meth c H locs cells slots Q (F0 m 344 ls []) := by
  obtain ⟨hx, hb, hml, hown, hts, hK, hE, hX, hbl, hh, hL⟩ := id C0
  obtain ⟨hPC, hPM, hS, hl, hR⟩ := I0
  obtain ⟨gC2, gM2, r, f1, f2, hR2⟩ := e_know hR (xs (n + 1)) (xs (n + 2))
  have hbA : ¬ n_A h0 b := by unfold n_A; omega
  refine lv_aload_n hx hb dL_law_344 rfl (lv_at hl 2 rfl) ?_
  refine l_rd hx hb hX hbl hbA hS hn hL 1 (by decide) hl (by decide) dL_law_345 dL_law_346 dL_law_347 dL_law_348 dL_law_349 ?_
  refine l_rd hx hb hX hbl hbA hS hn hL 2 (by decide) hl (by decide) dL_law_350 dL_law_351 dL_law_352 dL_law_353 dL_law_354 ?_
  refine l_goi (va_runV (As := [.int (xs (n + 1)), .int (xs (n + 2))]) (rest := []) ⟨hx, hb, hml, hown, hts⟩ (kX11_know (l_D1 h0) f1) (cwV 2 hts gL_law_X11_know rfl rfl rfl (by decide +kernel) ⟨Nat.le_of_ble_eq_true rfl, Nat.le_of_ble_eq_true rfl⟩) (l_preV hK hPC hE hS l_s1 tC0 rfl) rfl rfl hl.1 rfl (lv_room (Nat.le_of_ble_eq_true rfl)) dL_law_355 ⟨hcr, hsr⟩) hS l_s1 hPM l_n1 (fun H locs hPC hPM hS => ?_)
  refine lv_aload_n hx hb dL_law_358 rfl (lv_at hl 1 rfl) ?_
  refine l_rd hx hb hX hbl hbA hS hn hL 1 (by decide) hl (by decide) dL_law_359 dL_law_360 dL_law_361 dL_law_362 dL_law_363 ?_
  refine l_rd hx hb hX hbl hbA hS hn hL 2 (by decide) hl (by decide) dL_law_364 dL_law_365 dL_law_366 dL_law_367 dL_law_368 ?_
  refine l_goi (va_runV (As := [.int (xs (n + 1)), .int (xs (n + 2))]) (rest := [.int r]) ⟨hx, hb, hml, hown, hts⟩ (kX12_know (l_D2 h0) f2) (cwV 2 hts gL_law_X12_know rfl rfl rfl (by decide +kernel) ⟨Nat.le_of_ble_eq_true rfl, Nat.le_of_ble_eq_true rfl⟩) (l_preV hK hPM hE hS l_s2 tM0 rfl) rfl rfl hl.1 rfl (lv_room (Nat.le_of_ble_eq_true rfl)) dL_law_369 ⟨hcr, hsr⟩) hS l_s2 hPC l_n2 (fun H locs hPM hPC hS => ?_)
  refine lv_icmp_eq (tgt := 1383) hx hb dL_law_372 (by decide) (fun _ => ?_) (fun c9 => absurd rfl c9)
  exact l_next C0 hPC hPM hS hl hR2 kk
set_option maxRecDepth 100000 in
set_option maxHeartbeats 4000000 in
theorem lc_5 {p : Program} {l : Launch} {e : Env} {s : State} {m : MethodId} {below : List Frame} {meth : Method} {c : Code} {H : Heap} {locs : List Loc} {cells slots : Nat} {Q : State → Prop} {ls : Array Slot} {D : va_G} {tc : Nat → ClassId} {E : (Nat → Nat) × (Nat → Nat) × Nat} {h0 b L n : Nat} {xs : Nat → Int32} {gC gM : c_G} (C0 : l_C p s m c D tc h0 E b L xs) (hn : n + 6 ≤ L) (hcr : cells ≤ room_1.cells) (hsr : slots ≤ room_1.slots) (I0 : l_I s D tc h0 b n gC gM H locs ls) (kk : l_K p l e s m below meth c D tc h0 b cells slots Q n) : W p l e room_1 s m #[Value.ref b] below meth c H locs cells slots Q (F0 m 377 ls []) := by
  obtain ⟨hx, hb, hml, hown, hts, hK, hE, hX, hbl, hh, hL⟩ := id C0
  obtain ⟨hPC, hPM, hS, hl, hR⟩ := I0
  obtain ⟨gC2, gM2, r, f1, f2, hR2⟩ := e_basket hR (xs (n + 1)) (xs (n + 2))
  have hbA : ¬ n_A h0 b := by unfold n_A; omega
  refine lv_aload_n hx hb dL_law_377 rfl (lv_at hl 2 rfl) ?_
  refine l_rd hx hb hX hbl hbA hS hn hL 1 (by decide) hl (by decide) dL_law_378 dL_law_379 dL_law_380 dL_law_381 dL_law_382 ?_
  refine l_rd hx hb hX hbl hbA hS hn hL 2 (by decide) hl (by decide) dL_law_383 dL_law_384 dL_law_385 dL_law_386 dL_law_387 ?_
  refine l_goi (va_runV (As := [.int (xs (n + 1)), .int (xs (n + 2))]) (rest := []) ⟨hx, hb, hml, hown, hts⟩ (kX11_basket (l_D1 h0) f1) (cwV 2 hts gL_law_X11_basket rfl rfl rfl (by decide +kernel) ⟨Nat.le_of_ble_eq_true rfl, Nat.le_of_ble_eq_true rfl⟩) (l_preV hK hPC hE hS l_s1 tC0 rfl) rfl rfl hl.1 rfl (lv_room (Nat.le_of_ble_eq_true rfl)) dL_law_388 ⟨hcr, hsr⟩) hS l_s1 hPM l_n1 (fun H locs hPC hPM hS => ?_)
  refine lv_aload_n hx hb dL_law_391 rfl (lv_at hl 1 rfl) ?_
  refine l_rd hx hb hX hbl hbA hS hn hL 1 (by decide) hl (by decide) dL_law_392 dL_law_393 dL_law_394 dL_law_395 dL_law_396 ?_
  refine l_rd hx hb hX hbl hbA hS hn hL 2 (by decide) hl (by decide) dL_law_397 dL_law_398 dL_law_399 dL_law_400 dL_law_401 ?_
  refine l_goi (va_runV (As := [.int (xs (n + 1)), .int (xs (n + 2))]) (rest := [.int r]) ⟨hx, hb, hml, hown, hts⟩ (kX12_basket (l_D2 h0) f2) (cwV 2 hts gL_law_X12_basket rfl rfl rfl (by decide +kernel) ⟨Nat.le_of_ble_eq_true rfl, Nat.le_of_ble_eq_true rfl⟩) (l_preV hK hPM hE hS l_s2 tM0 rfl) rfl rfl hl.1 rfl (lv_room (Nat.le_of_ble_eq_true rfl)) dL_law_402 ⟨hcr, hsr⟩) hS l_s2 hPC l_n2 (fun H locs hPM hPC hS => ?_)
  refine lv_icmp_eq (tgt := 1383) hx hb dL_law_405 (by decide) (fun _ => ?_) (fun c9 => absurd rfl c9)
  exact l_next C0 hPC hPM hS hl hR2 kk
set_option maxRecDepth 100000 in
set_option maxHeartbeats 4000000 in
theorem lc_6 {p : Program} {l : Launch} {e : Env} {s : State} {m : MethodId} {below : List Frame} {meth : Method} {c : Code} {H : Heap} {locs : List Loc} {cells slots : Nat} {Q : State → Prop} {ls : Array Slot} {D : va_G} {tc : Nat → ClassId} {E : (Nat → Nat) × (Nat → Nat) × Nat} {h0 b L n : Nat} {xs : Nat → Int32} {gC gM : c_G} (C0 : l_C p s m c D tc h0 E b L xs) (hn : n + 6 ≤ L) (hcr : cells ≤ room_1.cells) (hsr : slots ≤ room_1.slots) (I0 : l_I s D tc h0 b n gC gM H locs ls) (kk : l_K p l e s m below meth c D tc h0 b cells slots Q n) : W p l e room_1 s m #[Value.ref b] below meth c H locs cells slots Q (F0 m 410 ls []) := by
  obtain ⟨hx, hb, hml, hown, hts, hK, hE, hX, hbl, hh, hL⟩ := id C0
  obtain ⟨hPC, hPM, hS, hl, hR⟩ := I0
  obtain ⟨gC2, gM2, r, f1, f2, hR2⟩ := e_takeC hR (xs (n + 1)) (xs (n + 2))
  have hbA : ¬ n_A h0 b := by unfold n_A; omega
  refine lv_aload_n hx hb dL_law_410 rfl (lv_at hl 2 rfl) ?_
  refine l_rd hx hb hX hbl hbA hS hn hL 1 (by decide) hl (by decide) dL_law_411 dL_law_412 dL_law_413 dL_law_414 dL_law_415 ?_
  refine l_rd hx hb hX hbl hbA hS hn hL 2 (by decide) hl (by decide) dL_law_416 dL_law_417 dL_law_418 dL_law_419 dL_law_420 ?_
  refine l_goi (va_runV (As := [.int (xs (n + 1)), .int (xs (n + 2))]) (rest := []) ⟨hx, hb, hml, hown, hts⟩ (kX11_take (l_D1 h0) f1) (cwV 2 hts gL_law_X11_take rfl rfl rfl (by decide +kernel) ⟨Nat.le_of_ble_eq_true rfl, Nat.le_of_ble_eq_true rfl⟩) (l_preV hK hPC hE hS l_s1 tC0 rfl) rfl rfl hl.1 rfl (lv_room (Nat.le_of_ble_eq_true rfl)) dL_law_421 ⟨hcr, hsr⟩) hS l_s1 hPM l_n1 (fun H locs hPC hPM hS => ?_)
  refine lv_aload_n hx hb dL_law_424 rfl (lv_at hl 1 rfl) ?_
  refine l_rd hx hb hX hbl hbA hS hn hL 1 (by decide) hl (by decide) dL_law_425 dL_law_426 dL_law_427 dL_law_428 dL_law_429 ?_
  refine l_rd hx hb hX hbl hbA hS hn hL 2 (by decide) hl (by decide) dL_law_430 dL_law_431 dL_law_432 dL_law_433 dL_law_434 ?_
  refine l_goi (va_runV (As := [.int (xs (n + 1)), .int (xs (n + 2))]) (rest := [.int r]) ⟨hx, hb, hml, hown, hts⟩ (kX12_take (l_D2 h0) f2) (cwV 2 hts gL_law_X12_take rfl rfl rfl (by decide +kernel) ⟨Nat.le_of_ble_eq_true rfl, Nat.le_of_ble_eq_true rfl⟩) (l_preV hK hPM hE hS l_s2 tM0 rfl) rfl rfl hl.1 rfl (lv_room (Nat.le_of_ble_eq_true rfl)) dL_law_435 ⟨hcr, hsr⟩) hS l_s2 hPC l_n2 (fun H locs hPM hPC hS => ?_)
  refine lv_icmp_eq (tgt := 1383) hx hb dL_law_438 (by decide) (fun _ => ?_) (fun c9 => absurd rfl c9)
  exact l_next C0 hPC hPM hS hl hR2 kk
set_option maxRecDepth 100000 in
set_option maxHeartbeats 4000000 in
theorem lc_7 {p : Program} {l : Launch} {e : Env} {s : State} {m : MethodId} {below : List Frame} {meth : Method} {c : Code} {H : Heap} {locs : List Loc} {cells slots : Nat} {Q : State → Prop} {ls : Array Slot} {D : va_G} {tc : Nat → ClassId} {E : (Nat → Nat) × (Nat → Nat) × Nat} {h0 b L n : Nat} {xs : Nat → Int32} {gC gM : c_G} (C0 : l_C p s m c D tc h0 E b L xs) (hn : n + 6 ≤ L) (hcr : cells ≤ room_1.cells) (hsr : slots ≤ room_1.slots) (I0 : l_I s D tc h0 b n gC gM H locs ls) (kk : l_K p l e s m below meth c D tc h0 b cells slots Q n) : W p l e room_1 s m #[Value.ref b] below meth c H locs cells slots Q (F0 m 443 ls []) := by
  obtain ⟨hx, hb, hml, hown, hts, hK, hE, hX, hbl, hh, hL⟩ := id C0
  obtain ⟨hPC, hPM, hS, hl, hR⟩ := I0
  obtain ⟨gC2, gM2, r, f1, f2, hR2⟩ := e_setc hR (xs (n + 1)) (xs (n + 2)) (xs (n + 3))
  have hbA : ¬ n_A h0 b := by unfold n_A; omega
  refine lv_aload_n hx hb dL_law_443 rfl (lv_at hl 2 rfl) ?_
  refine l_rd hx hb hX hbl hbA hS hn hL 1 (by decide) hl (by decide) dL_law_444 dL_law_445 dL_law_446 dL_law_447 dL_law_448 ?_
  refine l_rd hx hb hX hbl hbA hS hn hL 2 (by decide) hl (by decide) dL_law_449 dL_law_450 dL_law_451 dL_law_452 dL_law_453 ?_
  refine l_rd hx hb hX hbl hbA hS hn hL 3 (by decide) hl (by decide) dL_law_454 dL_law_455 dL_law_456 dL_law_457 dL_law_458 ?_
  refine l_goi (va_runV (As := [.int (xs (n + 1)), .int (xs (n + 2)), .int (xs (n + 3))]) (rest := []) ⟨hx, hb, hml, hown, hts⟩ (kX11_set (l_D1 h0) f1) (cwV 3 hts gL_law_X11_set rfl rfl rfl (by decide +kernel) ⟨Nat.le_of_ble_eq_true rfl, Nat.le_of_ble_eq_true rfl⟩) (l_preV hK hPC hE hS l_s1 tC0 rfl) rfl rfl hl.1 rfl (lv_room (Nat.le_of_ble_eq_true rfl)) dL_law_459 ⟨hcr, hsr⟩) hS l_s1 hPM l_n1 (fun H locs hPC hPM hS => ?_)
  refine lv_aload_n hx hb dL_law_462 rfl (lv_at hl 1 rfl) ?_
  refine l_rd hx hb hX hbl hbA hS hn hL 1 (by decide) hl (by decide) dL_law_463 dL_law_464 dL_law_465 dL_law_466 dL_law_467 ?_
  refine l_rd hx hb hX hbl hbA hS hn hL 2 (by decide) hl (by decide) dL_law_468 dL_law_469 dL_law_470 dL_law_471 dL_law_472 ?_
  refine l_rd hx hb hX hbl hbA hS hn hL 3 (by decide) hl (by decide) dL_law_473 dL_law_474 dL_law_475 dL_law_476 dL_law_477 ?_
  refine l_goi (va_runV (As := [.int (xs (n + 1)), .int (xs (n + 2)), .int (xs (n + 3))]) (rest := [.int r]) ⟨hx, hb, hml, hown, hts⟩ (kX12_set (l_D2 h0) f2) (cwV 3 hts gL_law_X12_set rfl rfl rfl (by decide +kernel) ⟨Nat.le_of_ble_eq_true rfl, Nat.le_of_ble_eq_true rfl⟩) (l_preV hK hPM hE hS l_s2 tM0 rfl) rfl rfl hl.1 rfl (lv_room (Nat.le_of_ble_eq_true rfl)) dL_law_478 ⟨hcr, hsr⟩) hS l_s2 hPC l_n2 (fun H locs hPM hPC hS => ?_)
  refine lv_icmp_eq (tgt := 1383) hx hb dL_law_481 (by decide) (fun _ => ?_) (fun c9 => absurd rfl c9)
  exact l_next C0 hPC hPM hS hl hR2 kk
set_option maxRecDepth 100000 in
set_option maxHeartbeats 4000000 in
theorem lc_8 {p : Program} {l : Launch} {e : Env} {s : State} {m : MethodId} {below : List Frame} {meth : Method} {c : Code} {H : Heap} {locs : List Loc} {cells slots : Nat} {Q : State → Prop} {ls : Array Slot} {D : va_G} {tc : Nat → ClassId} {E : (Nat → Nat) × (Nat → Nat) × Nat} {h0 b L n : Nat} {xs : Nat → Int32} {gC gM : c_G} (C0 : l_C p s m c D tc h0 E b L xs) (hn : n + 6 ≤ L) (hcr : cells ≤ room_1.cells) (hsr : slots ≤ room_1.slots) (I0 : l_I s D tc h0 b n gC gM H locs ls) (kk : l_K p l e s m below meth c D tc h0 b cells slots Q n) : W p l e room_1 s m #[Value.ref b] below meth c H locs cells slots Q (F0 m 486 ls []) := by
  obtain ⟨hx, hb, hml, hown, hts, hK, hE, hX, hbl, hh, hL⟩ := id C0
  obtain ⟨hPC, hPM, hS, hl, hR⟩ := I0
  obtain ⟨gC2, gM2, r, f1, f2, hR2⟩ := e_forget hR (xs (n + 1))
  have hbA : ¬ n_A h0 b := by unfold n_A; omega
  refine lv_aload_n hx hb dL_law_486 rfl (lv_at hl 2 rfl) ?_
  refine l_rd hx hb hX hbl hbA hS hn hL 1 (by decide) hl (by decide) dL_law_487 dL_law_488 dL_law_489 dL_law_490 dL_law_491 ?_
  refine l_goi (va_runV (As := [.int (xs (n + 1))]) (rest := []) ⟨hx, hb, hml, hown, hts⟩ (kX11_forget (l_D1 h0) f1) (cwV 1 hts gL_law_X11_forget rfl rfl rfl (by decide +kernel) ⟨Nat.le_of_ble_eq_true rfl, Nat.le_of_ble_eq_true rfl⟩) (l_preV hK hPC hE hS l_s1 tC0 rfl) rfl rfl hl.1 rfl (lv_room (Nat.le_of_ble_eq_true rfl)) dL_law_492 ⟨hcr, hsr⟩) hS l_s1 hPM l_n1 (fun H locs hPC hPM hS => ?_)
  refine lv_aload_n hx hb dL_law_495 rfl (lv_at hl 1 rfl) ?_
  refine l_rd hx hb hX hbl hbA hS hn hL 1 (by decide) hl (by decide) dL_law_496 dL_law_497 dL_law_498 dL_law_499 dL_law_500 ?_
  refine l_goi (va_runV (As := [.int (xs (n + 1))]) (rest := [.int r]) ⟨hx, hb, hml, hown, hts⟩ (kX12_forget (l_D2 h0) f2) (cwV 1 hts gL_law_X12_forget rfl rfl rfl (by decide +kernel) ⟨Nat.le_of_ble_eq_true rfl, Nat.le_of_ble_eq_true rfl⟩) (l_preV hK hPM hE hS l_s2 tM0 rfl) rfl rfl hl.1 rfl (lv_room (Nat.le_of_ble_eq_true rfl)) dL_law_501 ⟨hcr, hsr⟩) hS l_s2 hPC l_n2 (fun H locs hPM hPC hS => ?_)
  refine lv_icmp_eq (tgt := 1383) hx hb dL_law_504 (by decide) (fun _ => ?_) (fun c9 => absurd rfl c9)
  exact l_next C0 hPC hPM hS hl hR2 kk
set_option maxRecDepth 100000 in
set_option maxHeartbeats 4000000 in
theorem lc_9 {p : Program} {l : Launch} {e : Env} {s : State} {m : MethodId} {below : List Frame} {meth : Method} {c : Code} {H : Heap} {locs : List Loc} {cells slots : Nat} {Q : State → Prop} {ls : Array Slot} {D : va_G} {tc : Nat → ClassId} {E : (Nat → Nat) × (Nat → Nat) × Nat} {h0 b L n : Nat} {xs : Nat → Int32} {gC gM : c_G} (C0 : l_C p s m c D tc h0 E b L xs) (hn : n + 6 ≤ L) (hcr : cells ≤ room_1.cells) (hsr : slots ≤ room_1.slots) (I0 : l_I s D tc h0 b n gC gM H locs ls) (kk : l_K p l e s m below meth c D tc h0 b cells slots Q n) : W p l e room_1 s m #[Value.ref b] below meth c H locs cells slots Q (F0 m 509 ls []) := by
  obtain ⟨hx, hb, hml, hown, hts, hK, hE, hX, hbl, hh, hL⟩ := id C0
  obtain ⟨hPC, hPM, hS, hl, hR⟩ := I0
  obtain ⟨gC2, gM2, r, f1, f2, hR2⟩ := e_bar hR (xs (n + 1))
  have hbA : ¬ n_A h0 b := by unfold n_A; omega
  refine lv_aload_n hx hb dL_law_509 rfl (lv_at hl 2 rfl) ?_
  refine l_rd hx hb hX hbl hbA hS hn hL 1 (by decide) hl (by decide) dL_law_510 dL_law_511 dL_law_512 dL_law_513 dL_law_514 ?_
  refine l_goi (va_runV (As := [.int (xs (n + 1))]) (rest := []) ⟨hx, hb, hml, hown, hts⟩ (kX11_bar (l_D1 h0) f1) (cwV 1 hts gL_law_X11_bar rfl rfl rfl (by decide +kernel) ⟨Nat.le_of_ble_eq_true rfl, Nat.le_of_ble_eq_true rfl⟩) (l_preV hK hPC hE hS l_s1 tC0 rfl) rfl rfl hl.1 rfl (lv_room (Nat.le_of_ble_eq_true rfl)) dL_law_515 ⟨hcr, hsr⟩) hS l_s1 hPM l_n1 (fun H locs hPC hPM hS => ?_)
  refine lv_aload_n hx hb dL_law_518 rfl (lv_at hl 1 rfl) ?_
  refine l_rd hx hb hX hbl hbA hS hn hL 1 (by decide) hl (by decide) dL_law_519 dL_law_520 dL_law_521 dL_law_522 dL_law_523 ?_
  refine l_goi (va_runV (As := [.int (xs (n + 1))]) (rest := [.int r]) ⟨hx, hb, hml, hown, hts⟩ (kX12_bar (l_D2 h0) f2) (cwV 1 hts gL_law_X12_bar rfl rfl rfl (by decide +kernel) ⟨Nat.le_of_ble_eq_true rfl, Nat.le_of_ble_eq_true rfl⟩) (l_preV hK hPM hE hS l_s2 tM0 rfl) rfl rfl hl.1 rfl (lv_room (Nat.le_of_ble_eq_true rfl)) dL_law_524 ⟨hcr, hsr⟩) hS l_s2 hPC l_n2 (fun H locs hPM hPC hS => ?_)
  refine lv_icmp_eq (tgt := 1383) hx hb dL_law_527 (by decide) (fun _ => ?_) (fun c9 => absurd rfl c9)
  exact l_next C0 hPC hPM hS hl hR2 kk
set_option maxRecDepth 100000 in
set_option maxHeartbeats 4000000 in
theorem lc_10 {p : Program} {l : Launch} {e : Env} {s : State} {m : MethodId} {below : List Frame} {meth : Method} {c : Code} {H : Heap} {locs : List Loc} {cells slots : Nat} {Q : State → Prop} {ls : Array Slot} {D : va_G} {tc : Nat → ClassId} {E : (Nat → Nat) × (Nat → Nat) × Nat} {h0 b L n : Nat} {xs : Nat → Int32} {gC gM : c_G} (C0 : l_C p s m c D tc h0 E b L xs) (hn : n + 6 ≤ L) (hcr : cells ≤ room_1.cells) (hsr : slots ≤ room_1.slots) (I0 : l_I s D tc h0 b n gC gM H locs ls) (kk : l_K p l e s m below meth c D tc h0 b cells slots Q n) : W p l e room_1 s m #[Value.ref b] below meth c H locs cells slots Q (F0 m 532 ls []) := by
  obtain ⟨hx, hb, hml, hown, hts, hK, hE, hX, hbl, hh, hL⟩ := id C0
  obtain ⟨hPC, hPM, hS, hl, hR⟩ := I0
  obtain ⟨gC2, gM2, r, f1, f2, hR2⟩ := e_row hR (xs (n + 1)) (xs (n + 2)) (xs (n + 3))
  have hbA : ¬ n_A h0 b := by unfold n_A; omega
  refine lv_aload_n hx hb dL_law_532 rfl (lv_at hl 2 rfl) ?_
  refine l_rd hx hb hX hbl hbA hS hn hL 1 (by decide) hl (by decide) dL_law_533 dL_law_534 dL_law_535 dL_law_536 dL_law_537 ?_
  refine l_rd hx hb hX hbl hbA hS hn hL 2 (by decide) hl (by decide) dL_law_538 dL_law_539 dL_law_540 dL_law_541 dL_law_542 ?_
  refine l_rd hx hb hX hbl hbA hS hn hL 3 (by decide) hl (by decide) dL_law_543 dL_law_544 dL_law_545 dL_law_546 dL_law_547 ?_
  refine l_goi (va_runV (As := [.int (xs (n + 1)), .int (xs (n + 2)), .int (xs (n + 3))]) (rest := []) ⟨hx, hb, hml, hown, hts⟩ (kX11_row (l_D1 h0) f1) (cwV 3 hts gL_law_X11_row rfl rfl rfl (by decide +kernel) ⟨Nat.le_of_ble_eq_true rfl, Nat.le_of_ble_eq_true rfl⟩) (l_preV hK hPC hE hS l_s1 tC0 rfl) rfl rfl hl.1 rfl (lv_room (Nat.le_of_ble_eq_true rfl)) dL_law_548 ⟨hcr, hsr⟩) hS l_s1 hPM l_n1 (fun H locs hPC hPM hS => ?_)
  refine lv_aload_n hx hb dL_law_551 rfl (lv_at hl 1 rfl) ?_
  refine l_rd hx hb hX hbl hbA hS hn hL 1 (by decide) hl (by decide) dL_law_552 dL_law_553 dL_law_554 dL_law_555 dL_law_556 ?_
  refine l_rd hx hb hX hbl hbA hS hn hL 2 (by decide) hl (by decide) dL_law_557 dL_law_558 dL_law_559 dL_law_560 dL_law_561 ?_
  refine l_rd hx hb hX hbl hbA hS hn hL 3 (by decide) hl (by decide) dL_law_562 dL_law_563 dL_law_564 dL_law_565 dL_law_566 ?_
  refine l_goi (va_runV (As := [.int (xs (n + 1)), .int (xs (n + 2)), .int (xs (n + 3))]) (rest := [.int r]) ⟨hx, hb, hml, hown, hts⟩ (kX12_row (l_D2 h0) f2) (cwV 3 hts gL_law_X12_row rfl rfl rfl (by decide +kernel) ⟨Nat.le_of_ble_eq_true rfl, Nat.le_of_ble_eq_true rfl⟩) (l_preV hK hPM hE hS l_s2 tM0 rfl) rfl rfl hl.1 rfl (lv_room (Nat.le_of_ble_eq_true rfl)) dL_law_567 ⟨hcr, hsr⟩) hS l_s2 hPC l_n2 (fun H locs hPM hPC hS => ?_)
  refine lv_icmp_eq (tgt := 1383) hx hb dL_law_570 (by decide) (fun _ => ?_) (fun c9 => absurd rfl c9)
  exact l_next C0 hPC hPM hS hl hR2 kk
set_option maxRecDepth 100000 in
set_option maxHeartbeats 4000000 in
theorem lc_11 {p : Program} {l : Launch} {e : Env} {s : State} {m : MethodId} {below : List Frame} {meth : Method} {c : Code} {H : Heap} {locs : List Loc} {cells slots : Nat} {Q : State → Prop} {ls : Array Slot} {D : va_G} {tc : Nat → ClassId} {E : (Nat → Nat) × (Nat → Nat) × Nat} {h0 b L n : Nat} {xs : Nat → Int32} {gC gM : c_G} (C0 : l_C p s m c D tc h0 E b L xs) (hn : n + 6 ≤ L) (hcr : cells ≤ room_1.cells) (hsr : slots ≤ room_1.slots) (I0 : l_I s D tc h0 b n gC gM H locs ls) (kk : l_K p l e s m below meth c D tc h0 b cells slots Q n) : W p l e room_1 s m #[Value.ref b] below meth c H locs cells slots Q (F0 m 575 ls []) := by
  obtain ⟨hx, hb, hml, hown, hts, hK, hE, hX, hbl, hh, hL⟩ := id C0
  obtain ⟨hPC, hPM, hS, hl, hR⟩ := I0
  obtain ⟨gC2, gM2, r, f1, f2, hR2⟩ := e_feed hR (xs (n + 1))
  have hbA : ¬ n_A h0 b := by unfold n_A; omega
  refine lv_aload_n hx hb dL_law_575 rfl (lv_at hl 2 rfl) ?_
  refine l_rd hx hb hX hbl hbA hS hn hL 1 (by decide) hl (by decide) dL_law_576 dL_law_577 dL_law_578 dL_law_579 dL_law_580 ?_
  refine l_goi (va_runV (As := [.int (xs (n + 1))]) (rest := []) ⟨hx, hb, hml, hown, hts⟩ (kX11_feed (l_D1 h0) f1) (cwV 1 hts gL_law_X11_feed rfl rfl rfl (by decide +kernel) ⟨Nat.le_of_ble_eq_true rfl, Nat.le_of_ble_eq_true rfl⟩) (l_preV hK hPC hE hS l_s1 tC0 rfl) rfl rfl hl.1 rfl (lv_room (Nat.le_of_ble_eq_true rfl)) dL_law_581 ⟨hcr, hsr⟩) hS l_s1 hPM l_n1 (fun H locs hPC hPM hS => ?_)
  refine lv_aload_n hx hb dL_law_584 rfl (lv_at hl 1 rfl) ?_
  refine l_rd hx hb hX hbl hbA hS hn hL 1 (by decide) hl (by decide) dL_law_585 dL_law_586 dL_law_587 dL_law_588 dL_law_589 ?_
  refine l_goi (va_runV (As := [.int (xs (n + 1))]) (rest := [.int r]) ⟨hx, hb, hml, hown, hts⟩ (kX12_feed (l_D2 h0) f2) (cwV 1 hts gL_law_X12_feed rfl rfl rfl (by decide +kernel) ⟨Nat.le_of_ble_eq_true rfl, Nat.le_of_ble_eq_true rfl⟩) (l_preV hK hPM hE hS l_s2 tM0 rfl) rfl rfl hl.1 rfl (lv_room (Nat.le_of_ble_eq_true rfl)) dL_law_590 ⟨hcr, hsr⟩) hS l_s2 hPC l_n2 (fun H locs hPM hPC hS => ?_)
  refine lv_icmp_eq (tgt := 1383) hx hb dL_law_593 (by decide) (fun _ => ?_) (fun c9 => absurd rfl c9)
  exact l_next C0 hPC hPM hS hl hR2 kk
