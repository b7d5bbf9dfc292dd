section ZM
variable {p : Program} {l : Launch} {e : Env} {R : Room} {s : State} {m : MethodId} {args : Array Value} {below : List Frame} {meth : Method} {c : Code} {cells slots : Nat} {Q : State → Prop} {D : va_G} {dA : Nat → ClassId} {ad ad0 : Nat → Nat} {al al0 : Nat → Prop}
variable {b L : Nat} {xs : Nat → Int32}
set_option maxHeartbeats 4000000 in
set_option maxRecDepth 100000 in
theorem mL2_law_J1479 {k : Int32 → zW → Prop} {g23 : Nat → Nat → Int32 → zW → Prop} {a3 : Nat} (X : zCx p s m args meth c cL_law 7 RL (some .boolean)) (hQ : zRetAI p l e R s m args below meth c Q D dA true ad0 al0 cL_law k) (hsc : va_X b L xs s s.heap ∧ b < s.heap.size ∧ ¬ zA ad0 al0 s.heap.size b) (hl0 : l.stackTraces = false) (hTh : zThE (zA ad0 al0 s.heap.size) s s.heap) (htw : ∀ w ∈ zTw2, w.before args s = true) (hg23 : ∀ (cells slots mc ms : Nat) (x4 : Int32) (ad : Nat → Nat) (al : Nat → Prop) (w : zW) (H : Heap) (locs : List Loc) (ls : Array Slot) (ha3 : al a3 ∧ zsh a3 = 21), g23 mc ms x4 w → zExt ad0 al0 ad al → zRm R 145 (cells + mc) (slots + ms) → zSt D dA true ad0 al0 ad al w s H locs → lv_has ls 7 [(0, .ref b), (1, .ref (ad 1)), (2, .ref (ad 200)), (3, .ref (ad a3)), (4, .int x4)] → W p l e R s m args below meth c H locs cells slots Q (F0 m 23 ls [])) {cells slots mc ms : Nat} {x4 : Int32} {ad : Nat → Nat} {al : Nat → Prop} {w : zW} {H : Heap} {locs : List Loc} {ls : Array Slot} (ha3 : al a3 ∧ zsh a3 = 21) (hf : fL_law_J1479 L xs a3 k g23 mc ms x4 w) (hX : zExt ad0 al0 ad al) (hr : zRm R 145 (cells + mc) (slots + ms)) (hR : zSt D dA true ad0 al0 ad al w s H locs) (hl : lv_has ls 7 [(0, .ref b), (1, .ref (ad 1)), (2, .ref (ad 200)), (3, .ref (ad a3)), (4, .int x4)]) : W p l e R s m args below meth c H locs cells slots Q (F0 m 1479 ls []) := by
  have hx := X.1
  have hb := X.2.1
  have hml := X.2.2.1
  have hown := X.2.2.2.1
  have hts := X.2.2.2.2.1
  unfold fL_law_J1479 at hf
  refine lv_iinc (v := x4 + (7 : Int32)) (lv' := [(4, .int (x4 + (7 : Int32))), (0, .ref b), (1, .ref (ad 1)), (2, .ref (ad 200)), (3, .ref (ad a3))]) hx hb dL_law_1479 hl (k := 4) rfl rfl (by decide) rfl (fun ls hl => ?_)
  refine lv_goto (tgt := 23) hx hb dL_law_1482 (by decide) ?_
  exact hg23 _ _ _ _ (x4 + (7 : Int32)) _ _ w _ _ _ ha3 hf hX hr hR (lv_sub hl [1, 2, 3, 4, 0] rfl)
set_option maxHeartbeats 4000000 in
set_option maxRecDepth 100000 in
theorem mL2_law_J224 {k : Int32 → zW → Prop} {g23 : Nat → Nat → Int32 → zW → Prop} {a3 : Nat} (X : zCx p s m args meth c cL_law 7 RL (some .boolean)) (hQ : zRetAI p l e R s m args below meth c Q D dA true ad0 al0 cL_law k) (hsc : va_X b L xs s s.heap ∧ b < s.heap.size ∧ ¬ zA ad0 al0 s.heap.size b) (hl0 : l.stackTraces = false) (hTh : zThE (zA ad0 al0 s.heap.size) s s.heap) (htw : ∀ w ∈ zTw2, w.before args s = true) (hg23 : ∀ (cells slots mc ms : Nat) (x4 : Int32) (ad : Nat → Nat) (al : Nat → Prop) (w : zW) (H : Heap) (locs : List Loc) (ls : Array Slot) (ha3 : al a3 ∧ zsh a3 = 21), g23 mc ms x4 w → zExt ad0 al0 ad al → zRm R 145 (cells + mc) (slots + ms) → zSt D dA true ad0 al0 ad al w s H locs → lv_has ls 7 [(0, .ref b), (1, .ref (ad 1)), (2, .ref (ad 200)), (3, .ref (ad a3)), (4, .int x4)] → W p l e R s m args below meth c H locs cells slots Q (F0 m 23 ls [])) {cells slots mc ms : Nat} {x4 : Int32} {ad : Nat → Nat} {al : Nat → Prop} {w : zW} {H : Heap} {locs : List Loc} {ls : Array Slot} (ha3 : al a3 ∧ zsh a3 = 21) (hf : fL_law_J224 L xs a3 k g23 mc ms x4 w) (hX : zExt ad0 al0 ad al) (hr : zRm R 145 (cells + mc) (slots + ms)) (hR : zSt D dA true ad0 al0 ad al w s H locs) (hl : lv_has ls 7 [(0, .ref b), (1, .ref (ad 1)), (2, .ref (ad 200)), (3, .ref (ad a3)), (4, .int x4)]) : W p l e R s m args below meth c H locs cells slots Q (F0 m 224 ls []) := by
  have hx := X.1
  have hb := X.2.1
  have hml := X.2.2.1
  have hown := X.2.2.2.1
  have hts := X.2.2.2.2.1
  unfold fL_law_J224 at hf
  refine lv_aload_n hx hb dL_law_224 rfl (lv_at hl 1 rfl) ?_
  refine lv_aload_n hx hb dL_law_225 rfl (lv_at hl 0 rfl) ?_
  refine lv_iload hx hb dL_law_226 (lv_at hl 4 rfl) ?_
  refine lv_iconst (v := (1 : Int32)) hx hb dL_law_228 (by decide) ?_
  refine lv_iadd hx hb dL_law_229 ?_
  obtain ⟨hb5, hf⟩ := hf
  refine va_sld hx hb hsc.1 hsc.2.1 hsc.2.2 hR.2.2.1 hb5 dL_law_230 ?_
  refine lv_i2l hx hb dL_law_231 rfl ?_
  refine lv_bipush (v := (32 : Int32)) hx hb dL_law_232 (by decide) ?_
  refine lv_lshl hx hb dL_law_234 rfl ?_
  refine lv_aload_n hx hb dL_law_235 rfl (lv_at hl 0 rfl) ?_
  refine lv_iload hx hb dL_law_236 (lv_at hl 4 rfl) ?_
  refine lv_iconst (v := (2 : Int32)) hx hb dL_law_238 (by decide) ?_
  refine lv_iadd hx hb dL_law_239 ?_
  obtain ⟨hb6, hf⟩ := hf
  refine va_sld hx hb hsc.1 hsc.2.1 hsc.2.2 hR.2.2.1 hb6 dL_law_240 ?_
  refine lv_i2l hx hb dL_law_241 rfl ?_
  refine lv_ldc2 (v := (4294967295 : Int64)) hx hb hown (hts _ zq_7) dL_law_242 ?_
  refine lv_land hx hb dL_law_245 ?_
  refine lv_lor hx hb dL_law_246 ?_
  refine lv_aload_n hx hb dL_law_247 rfl (lv_at hl 0 rfl) ?_
  refine lv_iload hx hb dL_law_248 (lv_at hl 4 rfl) ?_
  refine lv_iconst (v := (3 : Int32)) hx hb dL_law_250 (by decide) ?_
  refine lv_iadd hx hb dL_law_251 ?_
  obtain ⟨hb7, hf⟩ := hf
  refine va_sld hx hb hsc.1 hsc.2.1 hsc.2.2 hR.2.2.1 hb7 dL_law_252 ?_
  refine lv_i2l hx hb dL_law_253 rfl ?_
  refine lv_bipush (v := (32 : Int32)) hx hb dL_law_254 (by decide) ?_
  refine lv_lshl hx hb dL_law_256 rfl ?_
  refine lv_aload_n hx hb dL_law_257 rfl (lv_at hl 0 rfl) ?_
  refine lv_iload hx hb dL_law_258 (lv_at hl 4 rfl) ?_
  refine lv_iconst (v := (4 : Int32)) hx hb dL_law_260 (by decide) ?_
  refine lv_iadd hx hb dL_law_261 ?_
  obtain ⟨hb8, hf⟩ := hf
  refine va_sld hx hb hsc.1 hsc.2.1 hsc.2.2 hR.2.2.1 hb8 dL_law_262 ?_
  refine lv_i2l hx hb dL_law_263 rfl ?_
  refine lv_ldc2 (v := (4294967295 : Int64)) hx hb hown (hts _ zq_7) dL_law_264 ?_
  refine lv_land hx hb dL_law_267 ?_
  refine lv_lor hx hb dL_law_268 ?_
  refine lv_aload_n hx hb dL_law_269 rfl (lv_at hl 0 rfl) ?_
  refine lv_iload hx hb dL_law_270 (lv_at hl 4 rfl) ?_
  refine lv_iconst (v := (5 : Int32)) hx hb dL_law_272 (by decide) ?_
  refine lv_iadd hx hb dL_law_273 ?_
  obtain ⟨hb9, hf⟩ := hf
  refine va_sld hx hb hsc.1 hsc.2.1 hsc.2.2 hR.2.2.1 hb9 dL_law_274 ?_
  refine lv_i2l hx hb dL_law_275 rfl ?_
  refine lv_bipush (v := (32 : Int32)) hx hb dL_law_276 (by decide) ?_
  refine lv_lshl hx hb dL_law_278 rfl ?_
  refine lv_aload_n hx hb dL_law_279 rfl (lv_at hl 0 rfl) ?_
  refine lv_iload hx hb dL_law_280 (lv_at hl 4 rfl) ?_
  refine lv_bipush (v := (6 : Int32)) hx hb dL_law_282 (by decide) ?_
  refine lv_iadd hx hb dL_law_284 ?_
  obtain ⟨hb10, hf⟩ := hf
  refine va_sld hx hb hsc.1 hsc.2.1 hsc.2.2 hR.2.2.1 hb10 dL_law_285 ?_
  refine lv_i2l hx hb dL_law_286 rfl ?_
  refine lv_ldc2 (v := (4294967295 : Int64)) hx hb hown (hts _ zq_7) dL_law_287 ?_
  refine lv_land hx hb dL_law_290 ?_
  refine lv_lor hx hb dL_law_291 ?_
  refine z_callVI (fr1 := 1) (b := 1) (As := [.long ((((xs (x4 + (1 : Int32)).toNatClampNeg).toInt64) <<< ((32 : Int32).toInt64 &&& 63)) ||| (((xs (x4 + (2 : Int32)).toNatClampNeg).toInt64) &&& (4294967295 : Int64))), .long ((((xs (x4 + (3 : Int32)).toNatClampNeg).toInt64) <<< ((32 : Int32).toInt64 &&& 63)) ||| (((xs (x4 + (4 : Int32)).toNatClampNeg).toInt64) &&& (4294967295 : Int64))), .long ((((xs (x4 + (5 : Int32)).toNatClampNeg).toInt64) <<< ((32 : Int32).toInt64 &&& 63)) ||| (((xs (x4 + (6 : Int32)).toNatClampNeg).toInt64) &&& (4294967295 : Int64)))]) (rest := []) X (hr.none (by decide)) hR zy_X11_feed zq_234 (zlit hR zf_1) (by rw [zs_1]; rfl) rfl (mX11_feed  hf) rfl hl (Nat.le_of_ble_eq_true rfl) dL_law_292 rfl (fun r11 w11 H locs hf hR => ?_)
  refine lv_aload_n hx hb dL_law_295 rfl (lv_at hl 2 rfl) ?_
  refine lv_aload_n hx hb dL_law_296 rfl (lv_at hl 0 rfl) ?_
  refine lv_iload hx hb dL_law_297 (lv_at hl 4 rfl) ?_
  refine lv_iconst (v := (1 : Int32)) hx hb dL_law_299 (by decide) ?_
  refine lv_iadd hx hb dL_law_300 ?_
  refine va_sld hx hb hsc.1 hsc.2.1 hsc.2.2 hR.2.2.1 hb5 dL_law_301 ?_
  refine lv_i2l hx hb dL_law_302 rfl ?_
  refine lv_bipush (v := (32 : Int32)) hx hb dL_law_303 (by decide) ?_
  refine lv_lshl hx hb dL_law_305 rfl ?_
  refine lv_aload_n hx hb dL_law_306 rfl (lv_at hl 0 rfl) ?_
  refine lv_iload hx hb dL_law_307 (lv_at hl 4 rfl) ?_
  refine lv_iconst (v := (2 : Int32)) hx hb dL_law_309 (by decide) ?_
  refine lv_iadd hx hb dL_law_310 ?_
  refine va_sld hx hb hsc.1 hsc.2.1 hsc.2.2 hR.2.2.1 hb6 dL_law_311 ?_
  refine lv_i2l hx hb dL_law_312 rfl ?_
  refine lv_ldc2 (v := (4294967295 : Int64)) hx hb hown (hts _ zq_7) dL_law_313 ?_
  refine lv_land hx hb dL_law_316 ?_
  refine lv_lor hx hb dL_law_317 ?_
  refine lv_aload_n hx hb dL_law_318 rfl (lv_at hl 0 rfl) ?_
  refine lv_iload hx hb dL_law_319 (lv_at hl 4 rfl) ?_
  refine lv_iconst (v := (3 : Int32)) hx hb dL_law_321 (by decide) ?_
  refine lv_iadd hx hb dL_law_322 ?_
  refine va_sld hx hb hsc.1 hsc.2.1 hsc.2.2 hR.2.2.1 hb7 dL_law_323 ?_
  refine lv_i2l hx hb dL_law_324 rfl ?_
  refine lv_bipush (v := (32 : Int32)) hx hb dL_law_325 (by decide) ?_
  refine lv_lshl hx hb dL_law_327 rfl ?_
  refine lv_aload_n hx hb dL_law_328 rfl (lv_at hl 0 rfl) ?_
  refine lv_iload hx hb dL_law_329 (lv_at hl 4 rfl) ?_
  refine lv_iconst (v := (4 : Int32)) hx hb dL_law_331 (by decide) ?_
  refine lv_iadd hx hb dL_law_332 ?_
  refine va_sld hx hb hsc.1 hsc.2.1 hsc.2.2 hR.2.2.1 hb8 dL_law_333 ?_
  refine lv_i2l hx hb dL_law_334 rfl ?_
  refine lv_ldc2 (v := (4294967295 : Int64)) hx hb hown (hts _ zq_7) dL_law_335 ?_
  refine lv_land hx hb dL_law_338 ?_
  refine lv_lor hx hb dL_law_339 ?_
  refine lv_aload_n hx hb dL_law_340 rfl (lv_at hl 0 rfl) ?_
  refine lv_iload hx hb dL_law_341 (lv_at hl 4 rfl) ?_
  refine lv_iconst (v := (5 : Int32)) hx hb dL_law_343 (by decide) ?_
  refine lv_iadd hx hb dL_law_344 ?_
  refine va_sld hx hb hsc.1 hsc.2.1 hsc.2.2 hR.2.2.1 hb9 dL_law_345 ?_
  refine lv_i2l hx hb dL_law_346 rfl ?_
  refine lv_bipush (v := (32 : Int32)) hx hb dL_law_347 (by decide) ?_
  refine lv_lshl hx hb dL_law_349 rfl ?_
  refine lv_aload_n hx hb dL_law_350 rfl (lv_at hl 0 rfl) ?_
  refine lv_iload hx hb dL_law_351 (lv_at hl 4 rfl) ?_
  refine lv_bipush (v := (6 : Int32)) hx hb dL_law_353 (by decide) ?_
  refine lv_iadd hx hb dL_law_355 ?_
  refine va_sld hx hb hsc.1 hsc.2.1 hsc.2.2 hR.2.2.1 hb10 dL_law_356 ?_
  refine lv_i2l hx hb dL_law_357 rfl ?_
  refine lv_ldc2 (v := (4294967295 : Int64)) hx hb hown (hts _ zq_7) dL_law_358 ?_
  refine lv_land hx hb dL_law_361 ?_
  refine lv_lor hx hb dL_law_362 ?_
  refine z_callVI (fr1 := 1) (b := 200) (As := [.long ((((xs (x4 + (1 : Int32)).toNatClampNeg).toInt64) <<< ((32 : Int32).toInt64 &&& 63)) ||| (((xs (x4 + (2 : Int32)).toNatClampNeg).toInt64) &&& (4294967295 : Int64))), .long ((((xs (x4 + (3 : Int32)).toNatClampNeg).toInt64) <<< ((32 : Int32).toInt64 &&& 63)) ||| (((xs (x4 + (4 : Int32)).toNatClampNeg).toInt64) &&& (4294967295 : Int64))), .long ((((xs (x4 + (5 : Int32)).toNatClampNeg).toInt64) <<< ((32 : Int32).toInt64 &&& 63)) ||| (((xs (x4 + (6 : Int32)).toNatClampNeg).toInt64) &&& (4294967295 : Int64)))]) (rest := [.int r11]) X (hr.none (by decide)) hR zy_X12_feed zq_244 (zlit hR zf_200) (by rw [zs_200]; rfl) rfl (mX12_feed  hf) rfl hl (Nat.le_of_ble_eq_true rfl) dL_law_363 rfl (fun r12 w12 H locs hf hR => ?_)
  refine lv_icmp_eq (tgt := 1479) hx hb dL_law_366 (by decide) (fun c13 => ?_) (fun c13 => ?_)
  · replace hf := hf.1 c13
    exact mL2_law_J1479 X hQ hsc hl0 hTh htw hg23 ha3 hf hX hr hR (lv_sub hl [0, 1, 2, 3, 4] rfl)
  · replace hf := hf.2 c13
    refine lv_iconst (v := (0 : Int32)) hx hb dL_law_369 (by decide) ?_
    exact hQ _ _ _ _ _ _ _ _ _ _ hX (by have := hr.2.2.1; omega) (by have := hr.2.2.2; omega) hf hR dL_law_370
set_option maxHeartbeats 4000000 in
set_option maxRecDepth 100000 in
theorem mL2_law_J371 {k : Int32 → zW → Prop} {g23 : Nat → Nat → Int32 → zW → Prop} {a3 : Nat} (X : zCx p s m args meth c cL_law 7 RL (some .boolean)) (hQ : zRetAI p l e R s m args below meth c Q D dA true ad0 al0 cL_law k) (hsc : va_X b L xs s s.heap ∧ b < s.heap.size ∧ ¬ zA ad0 al0 s.heap.size b) (hl0 : l.stackTraces = false) (hTh : zThE (zA ad0 al0 s.heap.size) s s.heap) (htw : ∀ w ∈ zTw2, w.before args s = true) (hg23 : ∀ (cells slots mc ms : Nat) (x4 : Int32) (ad : Nat → Nat) (al : Nat → Prop) (w : zW) (H : Heap) (locs : List Loc) (ls : Array Slot) (ha3 : al a3 ∧ zsh a3 = 21), g23 mc ms x4 w → zExt ad0 al0 ad al → zRm R 145 (cells + mc) (slots + ms) → zSt D dA true ad0 al0 ad al w s H locs → lv_has ls 7 [(0, .ref b), (1, .ref (ad 1)), (2, .ref (ad 200)), (3, .ref (ad a3)), (4, .int x4)] → W p l e R s m args below meth c H locs cells slots Q (F0 m 23 ls [])) {cells slots mc ms : Nat} {x4 : Int32} {ad : Nat → Nat} {al : Nat → Prop} {w : zW} {H : Heap} {locs : List Loc} {ls : Array Slot} (ha3 : al a3 ∧ zsh a3 = 21) (hf : fL_law_J371 L xs a3 k g23 mc ms x4 w) (hX : zExt ad0 al0 ad al) (hr : zRm R 145 (cells + mc) (slots + ms)) (hR : zSt D dA true ad0 al0 ad al w s H locs) (hl : lv_has ls 7 [(0, .ref b), (1, .ref (ad 1)), (2, .ref (ad 200)), (3, .ref (ad a3)), (4, .int x4)]) : W p l e R s m args below meth c H locs cells slots Q (F0 m 371 ls []) := by
  have hx := X.1
  have hb := X.2.1
  have hml := X.2.2.1
  have hown := X.2.2.2.1
  have hts := X.2.2.2.2.1
  unfold fL_law_J371 at hf
  refine lv_aload_n hx hb dL_law_371 rfl (lv_at hl 1 rfl) ?_
  refine z_callVI (fr1 := 144) (b := 1) (As := []) (rest := []) X (hr.none (by decide)) hR zy_X11_book zq_254 (zlit hR zf_1) (by rw [zs_1]; rfl) rfl (mX11_book  hf) rfl hl (Nat.le_of_ble_eq_true rfl) dL_law_372 rfl (fun r15 w15 H locs hf hR => ?_)
  refine lv_aload_n hx hb dL_law_375 rfl (lv_at hl 2 rfl) ?_
  refine z_callVI (fr1 := 132) (b := 200) (As := []) (rest := [.int r15]) X (hr.none (by decide)) hR zy_X12_book zq_580 (zlit hR zf_200) (by rw [zs_200]; rfl) rfl (mX12_book  hf) rfl hl (Nat.le_of_ble_eq_true rfl) dL_law_376 rfl (fun r16 w16 H locs hf hR => ?_)
  refine lv_icmp_eq (tgt := 1479) hx hb dL_law_379 (by decide) (fun c17 => ?_) (fun c17 => ?_)
  · replace hf := hf.1 c17
    exact mL2_law_J1479 X hQ hsc hl0 hTh htw hg23 ha3 hf hX hr hR (lv_sub hl [0, 1, 2, 3, 4] rfl)
  · replace hf := hf.2 c17
    refine lv_iconst (v := (0 : Int32)) hx hb dL_law_382 (by decide) ?_
    exact hQ _ _ _ _ _ _ _ _ _ _ hX (by have := hr.2.2.1; omega) (by have := hr.2.2.2; omega) hf hR dL_law_383
set_option maxHeartbeats 4000000 in
set_option maxRecDepth 100000 in
theorem mL2_law_J384 {k : Int32 → zW → Prop} {g23 : Nat → Nat → Int32 → zW → Prop} {a3 : Nat} (X : zCx p s m args meth c cL_law 7 RL (some .boolean)) (hQ : zRetAI p l e R s m args below meth c Q D dA true ad0 al0 cL_law k) (hsc : va_X b L xs s s.heap ∧ b < s.heap.size ∧ ¬ zA ad0 al0 s.heap.size b) (hl0 : l.stackTraces = false) (hTh : zThE (zA ad0 al0 s.heap.size) s s.heap) (htw : ∀ w ∈ zTw2, w.before args s = true) (hg23 : ∀ (cells slots mc ms : Nat) (x4 : Int32) (ad : Nat → Nat) (al : Nat → Prop) (w : zW) (H : Heap) (locs : List Loc) (ls : Array Slot) (ha3 : al a3 ∧ zsh a3 = 21), g23 mc ms x4 w → zExt ad0 al0 ad al → zRm R 145 (cells + mc) (slots + ms) → zSt D dA true ad0 al0 ad al w s H locs → lv_has ls 7 [(0, .ref b), (1, .ref (ad 1)), (2, .ref (ad 200)), (3, .ref (ad a3)), (4, .int x4)] → W p l e R s m args below meth c H locs cells slots Q (F0 m 23 ls [])) {cells slots mc ms : Nat} {x4 : Int32} {ad : Nat → Nat} {al : Nat → Prop} {w : zW} {H : Heap} {locs : List Loc} {ls : Array Slot} (ha3 : al a3 ∧ zsh a3 = 21) (hf : fL_law_J384 L xs a3 k g23 mc ms x4 w) (hX : zExt ad0 al0 ad al) (hr : zRm R 145 (cells + mc) (slots + ms)) (hR : zSt D dA true ad0 al0 ad al w s H locs) (hl : lv_has ls 7 [(0, .ref b), (1, .ref (ad 1)), (2, .ref (ad 200)), (3, .ref (ad a3)), (4, .int x4)]) : W p l e R s m args below meth c H locs cells slots Q (F0 m 384 ls []) := by
  have hx := X.1
  have hb := X.2.1
  have hml := X.2.2.1
  have hown := X.2.2.2.1
  have hts := X.2.2.2.2.1
  unfold fL_law_J384 at hf
  refine lv_aload_n hx hb dL_law_384 rfl (lv_at hl 1 rfl) ?_
  refine z_callVI (fr1 := 10) (b := 1) (As := []) (rest := []) X (hr.none (by decide)) hR zy_X11_notes zq_712 (zlit hR zf_1) (by rw [zs_1]; rfl) rfl (mX11_notes  hf) rfl hl (Nat.le_of_ble_eq_true rfl) dL_law_385 rfl (fun r19 w19 H locs hf hR => ?_)
  refine lv_aload_n hx hb dL_law_388 rfl (lv_at hl 2 rfl) ?_
  refine z_callVI (fr1 := 5) (b := 200) (As := []) (rest := [.int r19]) X (hr.none (by decide)) hR zy_X12_notes zq_741 (zlit hR zf_200) (by rw [zs_200]; rfl) rfl (mX12_notes  hf) rfl hl (Nat.le_of_ble_eq_true rfl) dL_law_389 rfl (fun r20 w20 H locs hf hR => ?_)
  refine lv_icmp_eq (tgt := 1479) hx hb dL_law_392 (by decide) (fun c21 => ?_) (fun c21 => ?_)
  · replace hf := hf.1 c21
    exact mL2_law_J1479 X hQ hsc hl0 hTh htw hg23 ha3 hf hX hr hR (lv_sub hl [0, 1, 2, 3, 4] rfl)
  · replace hf := hf.2 c21
    refine lv_iconst (v := (0 : Int32)) hx hb dL_law_395 (by decide) ?_
    exact hQ _ _ _ _ _ _ _ _ _ _ hX (by have := hr.2.2.1; omega) (by have := hr.2.2.2; omega) hf hR dL_law_396
set_option maxHeartbeats 4000000 in
set_option maxRecDepth 100000 in
theorem mL2_law_J397 {k : Int32 → zW → Prop} {g23 : Nat → Nat → Int32 → zW → Prop} {a3 : Nat} (X : zCx p s m args meth c cL_law 7 RL (some .boolean)) (hQ : zRetAI p l e R s m args below meth c Q D dA true ad0 al0 cL_law k) (hsc : va_X b L xs s s.heap ∧ b < s.heap.size ∧ ¬ zA ad0 al0 s.heap.size b) (hl0 : l.stackTraces = false) (hTh : zThE (zA ad0 al0 s.heap.size) s s.heap) (htw : ∀ w ∈ zTw2, w.before args s = true) (hg23 : ∀ (cells slots mc ms : Nat) (x4 : Int32) (ad : Nat → Nat) (al : Nat → Prop) (w : zW) (H : Heap) (locs : List Loc) (ls : Array Slot) (ha3 : al a3 ∧ zsh a3 = 21), g23 mc ms x4 w → zExt ad0 al0 ad al → zRm R 145 (cells + mc) (slots + ms) → zSt D dA true ad0 al0 ad al w s H locs → lv_has ls 7 [(0, .ref b), (1, .ref (ad 1)), (2, .ref (ad 200)), (3, .ref (ad a3)), (4, .int x4)] → W p l e R s m args below meth c H locs cells slots Q (F0 m 23 ls [])) {cells slots mc ms : Nat} {x4 : Int32} {ad : Nat → Nat} {al : Nat → Prop} {w : zW} {H : Heap} {locs : List Loc} {ls : Array Slot} (ha3 : al a3 ∧ zsh a3 = 21) (hf : fL_law_J397 L xs a3 k g23 mc ms x4 w) (hX : zExt ad0 al0 ad al) (hr : zRm R 145 (cells + mc) (slots + ms)) (hR : zSt D dA true ad0 al0 ad al w s H locs) (hl : lv_has ls 7 [(0, .ref b), (1, .ref (ad 1)), (2, .ref (ad 200)), (3, .ref (ad a3)), (4, .int x4)]) : W p l e R s m args below meth c H locs cells slots Q (F0 m 397 ls []) := by
  have hx := X.1
  have hb := X.2.1
  have hml := X.2.2.1
  have hown := X.2.2.2.1
  have hts := X.2.2.2.2.1
  unfold fL_law_J397 at hf
  refine lv_aload_n hx hb dL_law_397 rfl (lv_at hl 1 rfl) ?_
  refine lv_aload_n hx hb dL_law_398 rfl (lv_at hl 0 rfl) ?_
  refine lv_iload hx hb dL_law_399 (lv_at hl 4 rfl) ?_
  refine lv_iconst (v := (1 : Int32)) hx hb dL_law_401 (by decide) ?_
  refine lv_iadd hx hb dL_law_402 ?_
  obtain ⟨hb23, hf⟩ := hf
  refine va_sld hx hb hsc.1 hsc.2.1 hsc.2.2 hR.2.2.1 hb23 dL_law_403 ?_
  refine lv_aload_n hx hb dL_law_404 rfl (lv_at hl 0 rfl) ?_
  refine lv_iload hx hb dL_law_405 (lv_at hl 4 rfl) ?_
  refine lv_iconst (v := (2 : Int32)) hx hb dL_law_407 (by decide) ?_
  refine lv_iadd hx hb dL_law_408 ?_
  obtain ⟨hb24, hf⟩ := hf
  refine va_sld hx hb hsc.1 hsc.2.1 hsc.2.2 hR.2.2.1 hb24 dL_law_409 ?_
  refine z_callVI (fr1 := 1) (b := 1) (As := [.int (xs (x4 + (1 : Int32)).toNatClampNeg), .int (xs (x4 + (2 : Int32)).toNatClampNeg)]) (rest := []) X (hr.none (by decide)) hR zy_X11_term zq_749 (zlit hR zf_1) (by rw [zs_1]; rfl) rfl (mX11_term  hf) rfl hl (Nat.le_of_ble_eq_true rfl) dL_law_410 rfl (fun r25 w25 H locs hf hR => ?_)
  refine lv_aload_n hx hb dL_law_413 rfl (lv_at hl 2 rfl) ?_
  refine lv_aload_n hx hb dL_law_414 rfl (lv_at hl 0 rfl) ?_
  refine lv_iload hx hb dL_law_415 (lv_at hl 4 rfl) ?_
  refine lv_iconst (v := (1 : Int32)) hx hb dL_law_417 (by decide) ?_
  refine lv_iadd hx hb dL_law_418 ?_
  refine va_sld hx hb hsc.1 hsc.2.1 hsc.2.2 hR.2.2.1 hb23 dL_law_419 ?_
  refine lv_aload_n hx hb dL_law_420 rfl (lv_at hl 0 rfl) ?_
  refine lv_iload hx hb dL_law_421 (lv_at hl 4 rfl) ?_
  refine lv_iconst (v := (2 : Int32)) hx hb dL_law_423 (by decide) ?_
  refine lv_iadd hx hb dL_law_424 ?_
  refine va_sld hx hb hsc.1 hsc.2.1 hsc.2.2 hR.2.2.1 hb24 dL_law_425 ?_
  refine z_callVI (fr1 := 2) (b := 200) (As := [.int (xs (x4 + (1 : Int32)).toNatClampNeg), .int (xs (x4 + (2 : Int32)).toNatClampNeg)]) (rest := [.int r25]) X (hr.none (by decide)) hR zy_X12_term zq_765 (zlit hR zf_200) (by rw [zs_200]; rfl) rfl (mX12_term  hf) rfl hl (Nat.le_of_ble_eq_true rfl) dL_law_426 rfl (fun r26 w26 H locs hf hR => ?_)
  refine lv_icmp_eq (tgt := 1479) hx hb dL_law_429 (by decide) (fun c27 => ?_) (fun c27 => ?_)
  · replace hf := hf.1 c27
    exact mL2_law_J1479 X hQ hsc hl0 hTh htw hg23 ha3 hf hX hr hR (lv_sub hl [0, 1, 2, 3, 4] rfl)
  · replace hf := hf.2 c27
    refine lv_iconst (v := (0 : Int32)) hx hb dL_law_432 (by decide) ?_
    exact hQ _ _ _ _ _ _ _ _ _ _ hX (by have := hr.2.2.1; omega) (by have := hr.2.2.2; omega) hf hR dL_law_433
set_option maxHeartbeats 4000000 in
set_option maxRecDepth 100000 in
theorem mL2_law_J434 {k : Int32 → zW → Prop} {g23 : Nat → Nat → Int32 → zW → Prop} {a3 : Nat} (X : zCx p s m args meth c cL_law 7 RL (some .boolean)) (hQ : zRetAI p l e R s m args below meth c Q D dA true ad0 al0 cL_law k) (hsc : va_X b L xs s s.heap ∧ b < s.heap.size ∧ ¬ zA ad0 al0 s.heap.size b) (hl0 : l.stackTraces = false) (hTh : zThE (zA ad0 al0 s.heap.size) s s.heap) (htw : ∀ w ∈ zTw2, w.before args s = true) (hg23 : ∀ (cells slots mc ms : Nat) (x4 : Int32) (ad : Nat → Nat) (al : Nat → Prop) (w : zW) (H : Heap) (locs : List Loc) (ls : Array Slot) (ha3 : al a3 ∧ zsh a3 = 21), g23 mc ms x4 w → zExt ad0 al0 ad al → zRm R 145 (cells + mc) (slots + ms) → zSt D dA true ad0 al0 ad al w s H locs → lv_has ls 7 [(0, .ref b), (1, .ref (ad 1)), (2, .ref (ad 200)), (3, .ref (ad a3)), (4, .int x4)] → W p l e R s m args below meth c H locs cells slots Q (F0 m 23 ls [])) {cells slots mc ms : Nat} {x4 : Int32} {ad : Nat → Nat} {al : Nat → Prop} {w : zW} {H : Heap} {locs : List Loc} {ls : Array Slot} (ha3 : al a3 ∧ zsh a3 = 21) (hf : fL_law_J434 L xs a3 k g23 mc ms x4 w) (hX : zExt ad0 al0 ad al) (hr : zRm R 145 (cells + mc) (slots + ms)) (hR : zSt D dA true ad0 al0 ad al w s H locs) (hl : lv_has ls 7 [(0, .ref b), (1, .ref (ad 1)), (2, .ref (ad 200)), (3, .ref (ad a3)), (4, .int x4)]) : W p l e R s m args below meth c H locs cells slots Q (F0 m 434 ls []) := by
  have hx := X.1
  have hb := X.2.1
  have hml := X.2.2.1
  have hown := X.2.2.2.1
  have hts := X.2.2.2.2.1
  unfold fL_law_J434 at hf
  refine lv_aload_n hx hb dL_law_434 rfl (lv_at hl 1 rfl) ?_
  refine lv_aload_n hx hb dL_law_435 rfl (lv_at hl 0 rfl) ?_
  refine lv_iload hx hb dL_law_436 (lv_at hl 4 rfl) ?_
  refine lv_iconst (v := (1 : Int32)) hx hb dL_law_438 (by decide) ?_
  refine lv_iadd hx hb dL_law_439 ?_
  obtain ⟨hb29, hf⟩ := hf
  refine va_sld hx hb hsc.1 hsc.2.1 hsc.2.2 hR.2.2.1 hb29 dL_law_440 ?_
  refine lv_aload_n hx hb dL_law_441 rfl (lv_at hl 0 rfl) ?_
  refine lv_iload hx hb dL_law_442 (lv_at hl 4 rfl) ?_
  refine lv_iconst (v := (2 : Int32)) hx hb dL_law_444 (by decide) ?_
  refine lv_iadd hx hb dL_law_445 ?_
  obtain ⟨hb30, hf⟩ := hf
  refine va_sld hx hb hsc.1 hsc.2.1 hsc.2.2 hR.2.2.1 hb30 dL_law_446 ?_
  have hw31_1 : al 1 := (zlit hR zf_1)
  have hw31_2 : al 200 := (zlit hR zf_200)
  have hw31_3 : al a3 := ha3.1
  have hv31_1 : al 1 := (zlit hR zf_1)
  obtain ⟨c31, s31, hc31, hs31, hf⟩ := hf
  refine z_callAVI (fr1 := 5) (mc := c31) (ms := s31) (b := 1) (As := [.int (xs (x4 + (1 : Int32)).toNatClampNeg), .int (xs (x4 + (2 : Int32)).toNatClampNeg)]) (rest := []) X (hr.call hc31 hs31 (by decide)) hR zy_X11_line zq_776 (zlit hR zf_1) (by rw [zs_1]; rfl) rfl (mX11_line  hf) rfl hl (Nat.le_of_ble_eq_true rfl) dL_law_447 rfl (fun r31 w31 H locs ad31 al31 hf hE31 hR => ?_)
  have hX := hX.tr hE31
  have hr := hr.after hc31 hs31
  have ha3 : al31 a3 ∧ zsh a3 = 21 := ⟨(hE31 _ ha3.1).1, ha3.2⟩
  rw [← (hE31 1 hw31_1).2] at hl
  rw [← (hE31 200 hw31_2).2] at hl
  rw [← (hE31 a3 hw31_3).2] at hl
  refine lv_aload_n hx hb dL_law_450 rfl (lv_at hl 2 rfl) ?_
  refine lv_aload_n hx hb dL_law_451 rfl (lv_at hl 0 rfl) ?_
  refine lv_iload hx hb dL_law_452 (lv_at hl 4 rfl) ?_
  refine lv_iconst (v := (1 : Int32)) hx hb dL_law_454 (by decide) ?_
  refine lv_iadd hx hb dL_law_455 ?_
  refine va_sld hx hb hsc.1 hsc.2.1 hsc.2.2 hR.2.2.1 hb29 dL_law_456 ?_
  refine lv_aload_n hx hb dL_law_457 rfl (lv_at hl 0 rfl) ?_
  refine lv_iload hx hb dL_law_458 (lv_at hl 4 rfl) ?_
  refine lv_iconst (v := (2 : Int32)) hx hb dL_law_460 (by decide) ?_
  refine lv_iadd hx hb dL_law_461 ?_
  refine va_sld hx hb hsc.1 hsc.2.1 hsc.2.2 hR.2.2.1 hb30 dL_law_462 ?_
  refine z_callVI (fr1 := 4) (b := 200) (As := [.int (xs (x4 + (1 : Int32)).toNatClampNeg), .int (xs (x4 + (2 : Int32)).toNatClampNeg)]) (rest := [.int r31]) X (hr.none (by decide)) hR zy_X12_line zq_829 (zlit hR zf_200) (by rw [zs_200]; rfl) rfl (mX12_line  hf) rfl hl (Nat.le_of_ble_eq_true rfl) dL_law_463 rfl (fun r32 w32 H locs hf hR => ?_)
  refine lv_icmp_eq (tgt := 1479) hx hb dL_law_466 (by decide) (fun c33 => ?_) (fun c33 => ?_)
  · replace hf := hf.1 c33
    exact mL2_law_J1479 X hQ hsc hl0 hTh htw hg23 ha3 hf hX hr hR (lv_sub hl [0, 1, 2, 3, 4] rfl)
  · replace hf := hf.2 c33
    refine lv_iconst (v := (0 : Int32)) hx hb dL_law_469 (by decide) ?_
    exact hQ _ _ _ _ _ _ _ _ _ _ hX (by have := hr.2.2.1; omega) (by have := hr.2.2.2; omega) hf hR dL_law_470
set_option maxHeartbeats 4000000 in
set_option maxRecDepth 100000 in
theorem mL2_law_J471 {k : Int32 → zW → Prop} {g23 : Nat → Nat → Int32 → zW → Prop} {a3 : Nat} (X : zCx p s m args meth c cL_law 7 RL (some .boolean)) (hQ : zRetAI p l e R s m args below meth c Q D dA true ad0 al0 cL_law k) (hsc : va_X b L xs s s.heap ∧ b < s.heap.size ∧ ¬ zA ad0 al0 s.heap.size b) (hl0 : l.stackTraces = false) (hTh : zThE (zA ad0 al0 s.heap.size) s s.heap) (htw : ∀ w ∈ zTw2, w.before args s = true) (hg23 : ∀ (cells slots mc ms : Nat) (x4 : Int32) (ad : Nat → Nat) (al : Nat → Prop) (w : zW) (H : Heap) (locs : List Loc) (ls : Array Slot) (ha3 : al a3 ∧ zsh a3 = 21), g23 mc ms x4 w → zExt ad0 al0 ad al → zRm R 145 (cells + mc) (slots + ms) → zSt D dA true ad0 al0 ad al w s H locs → lv_has ls 7 [(0, .ref b), (1, .ref (ad 1)), (2, .ref (ad 200)), (3, .ref (ad a3)), (4, .int x4)] → W p l e R s m args below meth c H locs cells slots Q (F0 m 23 ls [])) {cells slots mc ms : Nat} {x4 : Int32} {ad : Nat → Nat} {al : Nat → Prop} {w : zW} {H : Heap} {locs : List Loc} {ls : Array Slot} (ha3 : al a3 ∧ zsh a3 = 21) (hf : fL_law_J471 L xs a3 k g23 mc ms x4 w) (hX : zExt ad0 al0 ad al) (hr : zRm R 145 (cells + mc) (slots + ms)) (hR : zSt D dA true ad0 al0 ad al w s H locs) (hl : lv_has ls 7 [(0, .ref b), (1, .ref (ad 1)), (2, .ref (ad 200)), (3, .ref (ad a3)), (4, .int x4)]) : W p l e R s m args below meth c H locs cells slots Q (F0 m 471 ls []) := by
  have hx := X.1
  have hb := X.2.1
  have hml := X.2.2.1
  have hown := X.2.2.2.1
  have hts := X.2.2.2.2.1
  unfold fL_law_J471 at hf
  refine lv_aload_n hx hb dL_law_471 rfl (lv_at hl 1 rfl) ?_
  refine lv_aload_n hx hb dL_law_472 rfl (lv_at hl 0 rfl) ?_
  refine lv_iload hx hb dL_law_473 (lv_at hl 4 rfl) ?_
  refine lv_iconst (v := (1 : Int32)) hx hb dL_law_475 (by decide) ?_
  refine lv_iadd hx hb dL_law_476 ?_
  obtain ⟨hb35, hf⟩ := hf
  refine va_sld hx hb hsc.1 hsc.2.1 hsc.2.2 hR.2.2.1 hb35 dL_law_477 ?_
  refine lv_aload_n hx hb dL_law_478 rfl (lv_at hl 0 rfl) ?_
  refine lv_iload hx hb dL_law_479 (lv_at hl 4 rfl) ?_
  refine lv_iconst (v := (2 : Int32)) hx hb dL_law_481 (by decide) ?_
  refine lv_iadd hx hb dL_law_482 ?_
  obtain ⟨hb36, hf⟩ := hf
  refine va_sld hx hb hsc.1 hsc.2.1 hsc.2.2 hR.2.2.1 hb36 dL_law_483 ?_
  refine z_callVI (fr1 := 1) (b := 1) (As := [.int (xs (x4 + (1 : Int32)).toNatClampNeg), .int (xs (x4 + (2 : Int32)).toNatClampNeg)]) (rest := []) X (hr.none (by decide)) hR zy_X11_there zq_860 (zlit hR zf_1) (by rw [zs_1]; rfl) rfl (mX11_there  hf) rfl hl (Nat.le_of_ble_eq_true rfl) dL_law_484 rfl (fun r37 w37 H locs hf hR => ?_)
  refine lv_aload_n hx hb dL_law_487 rfl (lv_at hl 2 rfl) ?_
  refine lv_aload_n hx hb dL_law_488 rfl (lv_at hl 0 rfl) ?_
  refine lv_iload hx hb dL_law_489 (lv_at hl 4 rfl) ?_
  refine lv_iconst (v := (1 : Int32)) hx hb dL_law_491 (by decide) ?_
  refine lv_iadd hx hb dL_law_492 ?_
  refine va_sld hx hb hsc.1 hsc.2.1 hsc.2.2 hR.2.2.1 hb35 dL_law_493 ?_
  refine lv_aload_n hx hb dL_law_494 rfl (lv_at hl 0 rfl) ?_
  refine lv_iload hx hb dL_law_495 (lv_at hl 4 rfl) ?_
  refine lv_iconst (v := (2 : Int32)) hx hb dL_law_497 (by decide) ?_
  refine lv_iadd hx hb dL_law_498 ?_
  refine va_sld hx hb hsc.1 hsc.2.1 hsc.2.2 hR.2.2.1 hb36 dL_law_499 ?_
  refine z_callVI (fr1 := 2) (b := 200) (As := [.int (xs (x4 + (1 : Int32)).toNatClampNeg), .int (xs (x4 + (2 : Int32)).toNatClampNeg)]) (rest := [.int r37]) X (hr.none (by decide)) hR zy_X12_there zq_865 (zlit hR zf_200) (by rw [zs_200]; rfl) rfl (mX12_there  hf) rfl hl (Nat.le_of_ble_eq_true rfl) dL_law_500 rfl (fun r38 w38 H locs hf hR => ?_)
  refine lv_icmp_eq (tgt := 1479) hx hb dL_law_503 (by decide) (fun c39 => ?_) (fun c39 => ?_)
  · replace hf := hf.1 c39
    exact mL2_law_J1479 X hQ hsc hl0 hTh htw hg23 ha3 hf hX hr hR (lv_sub hl [0, 1, 2, 3, 4] rfl)
  · replace hf := hf.2 c39
    refine lv_iconst (v := (0 : Int32)) hx hb dL_law_506 (by decide) ?_
    exact hQ _ _ _ _ _ _ _ _ _ _ hX (by have := hr.2.2.1; omega) (by have := hr.2.2.2; omega) hf hR dL_law_507
set_option maxHeartbeats 4000000 in
set_option maxRecDepth 100000 in
theorem mL2_law_J508 {k : Int32 → zW → Prop} {g23 : Nat → Nat → Int32 → zW → Prop} {a3 : Nat} (X : zCx p s m args meth c cL_law 7 RL (some .boolean)) (hQ : zRetAI p l e R s m args below meth c Q D dA true ad0 al0 cL_law k) (hsc : va_X b L xs s s.heap ∧ b < s.heap.size ∧ ¬ zA ad0 al0 s.heap.size b) (hl0 : l.stackTraces = false) (hTh : zThE (zA ad0 al0 s.heap.size) s s.heap) (htw : ∀ w ∈ zTw2, w.before args s = true) (hg23 : ∀ (cells slots mc ms : Nat) (x4 : Int32) (ad : Nat → Nat) (al : Nat → Prop) (w : zW) (H : Heap) (locs : List Loc) (ls : Array Slot) (ha3 : al a3 ∧ zsh a3 = 21), g23 mc ms x4 w → zExt ad0 al0 ad al → zRm R 145 (cells + mc) (slots + ms) → zSt D dA true ad0 al0 ad al w s H locs → lv_has ls 7 [(0, .ref b), (1, .ref (ad 1)), (2, .ref (ad 200)), (3, .ref (ad a3)), (4, .int x4)] → W p l e R s m args below meth c H locs cells slots Q (F0 m 23 ls [])) {cells slots mc ms : Nat} {x4 : Int32} {ad : Nat → Nat} {al : Nat → Prop} {w : zW} {H : Heap} {locs : List Loc} {ls : Array Slot} (ha3 : al a3 ∧ zsh a3 = 21) (hf : fL_law_J508 L xs a3 k g23 mc ms x4 w) (hX : zExt ad0 al0 ad al) (hr : zRm R 145 (cells + mc) (slots + ms)) (hR : zSt D dA true ad0 al0 ad al w s H locs) (hl : lv_has ls 7 [(0, .ref b), (1, .ref (ad 1)), (2, .ref (ad 200)), (3, .ref (ad a3)), (4, .int x4)]) : W p l e R s m args below meth c H locs cells slots Q (F0 m 508 ls []) := by
  have hx := X.1
  have hb := X.2.1
  have hml := X.2.2.1
  have hown := X.2.2.2.1
  have hts := X.2.2.2.2.1
  unfold fL_law_J508 at hf
  refine lv_aload_n hx hb dL_law_508 rfl (lv_at hl 1 rfl) ?_
  refine lv_aload_n hx hb dL_law_509 rfl (lv_at hl 0 rfl) ?_
  refine lv_iload hx hb dL_law_510 (lv_at hl 4 rfl) ?_
  refine lv_iconst (v := (1 : Int32)) hx hb dL_law_512 (by decide) ?_
  refine lv_iadd hx hb dL_law_513 ?_
  obtain ⟨hb41, hf⟩ := hf
  refine va_sld hx hb hsc.1 hsc.2.1 hsc.2.2 hR.2.2.1 hb41 dL_law_514 ?_
  refine lv_aload_n hx hb dL_law_515 rfl (lv_at hl 0 rfl) ?_
  refine lv_iload hx hb dL_law_516 (lv_at hl 4 rfl) ?_
  refine lv_iconst (v := (2 : Int32)) hx hb dL_law_518 (by decide) ?_
  refine lv_iadd hx hb dL_law_519 ?_
  obtain ⟨hb42, hf⟩ := hf
  refine va_sld hx hb hsc.1 hsc.2.1 hsc.2.2 hR.2.2.1 hb42 dL_law_520 ?_
  refine lv_aload_n hx hb dL_law_521 rfl (lv_at hl 0 rfl) ?_
  refine lv_iload hx hb dL_law_522 (lv_at hl 4 rfl) ?_
  refine lv_iconst (v := (3 : Int32)) hx hb dL_law_524 (by decide) ?_
  refine lv_iadd hx hb dL_law_525 ?_
  obtain ⟨hb43, hf⟩ := hf
  refine va_sld hx hb hsc.1 hsc.2.1 hsc.2.2 hR.2.2.1 hb43 dL_law_526 ?_
  refine z_callVI (fr1 := 4) (b := 1) (As := [.int (xs (x4 + (1 : Int32)).toNatClampNeg), .int (xs (x4 + (2 : Int32)).toNatClampNeg), .int (xs (x4 + (3 : Int32)).toNatClampNeg)]) (rest := []) X (hr.none (by decide)) hR zy_X11_guess zq_869 (zlit hR zf_1) (by rw [zs_1]; rfl) rfl (mX11_guess  hf) rfl hl (Nat.le_of_ble_eq_true rfl) dL_law_527 rfl (fun r44 w44 H locs hf hR => ?_)
  refine lv_aload_n hx hb dL_law_530 rfl (lv_at hl 2 rfl) ?_
  refine lv_aload_n hx hb dL_law_531 rfl (lv_at hl 0 rfl) ?_
  refine lv_iload hx hb dL_law_532 (lv_at hl 4 rfl) ?_
  refine lv_iconst (v := (1 : Int32)) hx hb dL_law_534 (by decide) ?_
  refine lv_iadd hx hb dL_law_535 ?_
  refine va_sld hx hb hsc.1 hsc.2.1 hsc.2.2 hR.2.2.1 hb41 dL_law_536 ?_
  refine lv_aload_n hx hb dL_law_537 rfl (lv_at hl 0 rfl) ?_
  refine lv_iload hx hb dL_law_538 (lv_at hl 4 rfl) ?_
  refine lv_iconst (v := (2 : Int32)) hx hb dL_law_540 (by decide) ?_
  refine lv_iadd hx hb dL_law_541 ?_
  refine va_sld hx hb hsc.1 hsc.2.1 hsc.2.2 hR.2.2.1 hb42 dL_law_542 ?_
  refine lv_aload_n hx hb dL_law_543 rfl (lv_at hl 0 rfl) ?_
  refine lv_iload hx hb dL_law_544 (lv_at hl 4 rfl) ?_
  refine lv_iconst (v := (3 : Int32)) hx hb dL_law_546 (by decide) ?_
  refine lv_iadd hx hb dL_law_547 ?_
  refine va_sld hx hb hsc.1 hsc.2.1 hsc.2.2 hR.2.2.1 hb43 dL_law_548 ?_
  refine z_callVI (fr1 := 2) (b := 200) (As := [.int (xs (x4 + (1 : Int32)).toNatClampNeg), .int (xs (x4 + (2 : Int32)).toNatClampNeg), .int (xs (x4 + (3 : Int32)).toNatClampNeg)]) (rest := [.int r44]) X (hr.none (by decide)) hR zy_X12_guess zq_902 (zlit hR zf_200) (by rw [zs_200]; rfl) rfl (mX12_guess  hf) rfl hl (Nat.le_of_ble_eq_true rfl) dL_law_549 rfl (fun r45 w45 H locs hf hR => ?_)
  refine lv_icmp_eq (tgt := 1479) hx hb dL_law_552 (by decide) (fun c46 => ?_) (fun c46 => ?_)
  · replace hf := hf.1 c46
    exact mL2_law_J1479 X hQ hsc hl0 hTh htw hg23 ha3 hf hX hr hR (lv_sub hl [0, 1, 2, 3, 4] rfl)
  · replace hf := hf.2 c46
    refine lv_iconst (v := (0 : Int32)) hx hb dL_law_555 (by decide) ?_
    exact hQ _ _ _ _ _ _ _ _ _ _ hX (by have := hr.2.2.1; omega) (by have := hr.2.2.2; omega) hf hR dL_law_556
set_option maxHeartbeats 4000000 in
set_option maxRecDepth 100000 in
theorem mL2_law_J557 {k : Int32 → zW → Prop} {g23 : Nat → Nat → Int32 → zW → Prop} {a3 : Nat} (X : zCx p s m args meth c cL_law 7 RL (some .boolean)) (hQ : zRetAI p l e R s m args below meth c Q D dA true ad0 al0 cL_law k) (hsc : va_X b L xs s s.heap ∧ b < s.heap.size ∧ ¬ zA ad0 al0 s.heap.size b) (hl0 : l.stackTraces = false) (hTh : zThE (zA ad0 al0 s.heap.size) s s.heap) (htw : ∀ w ∈ zTw2, w.before args s = true) (hg23 : ∀ (cells slots mc ms : Nat) (x4 : Int32) (ad : Nat → Nat) (al : Nat → Prop) (w : zW) (H : Heap) (locs : List Loc) (ls : Array Slot) (ha3 : al a3 ∧ zsh a3 = 21), g23 mc ms x4 w → zExt ad0 al0 ad al → zRm R 145 (cells + mc) (slots + ms) → zSt D dA true ad0 al0 ad al w s H locs → lv_has ls 7 [(0, .ref b), (1, .ref (ad 1)), (2, .ref (ad 200)), (3, .ref (ad a3)), (4, .int x4)] → W p l e R s m args below meth c H locs cells slots Q (F0 m 23 ls [])) {cells slots mc ms : Nat} {x4 : Int32} {ad : Nat → Nat} {al : Nat → Prop} {w : zW} {H : Heap} {locs : List Loc} {ls : Array Slot} (ha3 : al a3 ∧ zsh a3 = 21) (hf : fL_law_J557 L xs a3 k g23 mc ms x4 w) (hX : zExt ad0 al0 ad al) (hr : zRm R 145 (cells + mc) (slots + ms)) (hR : zSt D dA true ad0 al0 ad al w s H locs) (hl : lv_has ls 7 [(0, .ref b), (1, .ref (ad 1)), (2, .ref (ad 200)), (3, .ref (ad a3)), (4, .int x4)]) : W p l e R s m args below meth c H locs cells slots Q (F0 m 557 ls []) := by
  have hx := X.1
  have hb := X.2.1
  have hml := X.2.2.1
  have hown := X.2.2.2.1
  have hts := X.2.2.2.2.1
  unfold fL_law_J557 at hf
  refine lv_aload_n hx hb dL_law_557 rfl (lv_at hl 1 rfl) ?_
  refine lv_aload_n hx hb dL_law_558 rfl (lv_at hl 0 rfl) ?_
  refine lv_iload hx hb dL_law_559 (lv_at hl 4 rfl) ?_
  refine lv_iconst (v := (1 : Int32)) hx hb dL_law_561 (by decide) ?_
  refine lv_iadd hx hb dL_law_562 ?_
  obtain ⟨hb48, hf⟩ := hf
  refine va_sld hx hb hsc.1 hsc.2.1 hsc.2.2 hR.2.2.1 hb48 dL_law_563 ?_
  refine z_callVI (fr1 := 4) (b := 1) (As := [.int (xs (x4 + (1 : Int32)).toNatClampNeg)]) (rest := []) X (hr.none (by decide)) hR zy_X11_forget zq_918 (zlit hR zf_1) (by rw [zs_1]; rfl) rfl (mX11_forget  hf) rfl hl (Nat.le_of_ble_eq_true rfl) dL_law_564 rfl (fun r49 w49 H locs hf hR => ?_)
  refine lv_aload_n hx hb dL_law_567 rfl (lv_at hl 2 rfl) ?_
  refine lv_aload_n hx hb dL_law_568 rfl (lv_at hl 0 rfl) ?_
  refine lv_iload hx hb dL_law_569 (lv_at hl 4 rfl) ?_
  refine lv_iconst (v := (1 : Int32)) hx hb dL_law_571 (by decide) ?_
  refine lv_iadd hx hb dL_law_572 ?_
  refine va_sld hx hb hsc.1 hsc.2.1 hsc.2.2 hR.2.2.1 hb48 dL_law_573 ?_
  refine z_callVI (fr1 := 2) (b := 200) (As := [.int (xs (x4 + (1 : Int32)).toNatClampNeg)]) (rest := [.int r49]) X (hr.none (by decide)) hR zy_X12_forget zq_922 (zlit hR zf_200) (by rw [zs_200]; rfl) rfl (mX12_forget  hf) rfl hl (Nat.le_of_ble_eq_true rfl) dL_law_574 rfl (fun r50 w50 H locs hf hR => ?_)
  refine lv_icmp_eq (tgt := 1479) hx hb dL_law_577 (by decide) (fun c51 => ?_) (fun c51 => ?_)
  · replace hf := hf.1 c51
    exact mL2_law_J1479 X hQ hsc hl0 hTh htw hg23 ha3 hf hX hr hR (lv_sub hl [0, 1, 2, 3, 4] rfl)
  · replace hf := hf.2 c51
    refine lv_iconst (v := (0 : Int32)) hx hb dL_law_580 (by decide) ?_
    exact hQ _ _ _ _ _ _ _ _ _ _ hX (by have := hr.2.2.1; omega) (by have := hr.2.2.2; omega) hf hR dL_law_581
set_option maxHeartbeats 4000000 in
set_option maxRecDepth 100000 in
theorem mL2_law_J582 {k : Int32 → zW → Prop} {g23 : Nat → Nat → Int32 → zW → Prop} {a3 : Nat} (X : zCx p s m args meth c cL_law 7 RL (some .boolean)) (hQ : zRetAI p l e R s m args below meth c Q D dA true ad0 al0 cL_law k) (hsc : va_X b L xs s s.heap ∧ b < s.heap.size ∧ ¬ zA ad0 al0 s.heap.size b) (hl0 : l.stackTraces = false) (hTh : zThE (zA ad0 al0 s.heap.size) s s.heap) (htw : ∀ w ∈ zTw2, w.before args s = true) (hg23 : ∀ (cells slots mc ms : Nat) (x4 : Int32) (ad : Nat → Nat) (al : Nat → Prop) (w : zW) (H : Heap) (locs : List Loc) (ls : Array Slot) (ha3 : al a3 ∧ zsh a3 = 21), g23 mc ms x4 w → zExt ad0 al0 ad al → zRm R 145 (cells + mc) (slots + ms) → zSt D dA true ad0 al0 ad al w s H locs → lv_has ls 7 [(0, .ref b), (1, .ref (ad 1)), (2, .ref (ad 200)), (3, .ref (ad a3)), (4, .int x4)] → W p l e R s m args below meth c H locs cells slots Q (F0 m 23 ls [])) {cells slots mc ms : Nat} {x4 : Int32} {ad : Nat → Nat} {al : Nat → Prop} {w : zW} {H : Heap} {locs : List Loc} {ls : Array Slot} (ha3 : al a3 ∧ zsh a3 = 21) (hf : fL_law_J582 L xs a3 k g23 mc ms x4 w) (hX : zExt ad0 al0 ad al) (hr : zRm R 145 (cells + mc) (slots + ms)) (hR : zSt D dA true ad0 al0 ad al w s H locs) (hl : lv_has ls 7 [(0, .ref b), (1, .ref (ad 1)), (2, .ref (ad 200)), (3, .ref (ad a3)), (4, .int x4)]) : W p l e R s m args below meth c H locs cells slots Q (F0 m 582 ls []) := by
  have hx := X.1
  have hb := X.2.1
  have hml := X.2.2.1
  have hown := X.2.2.2.1
  have hts := X.2.2.2.2.1
  unfold fL_law_J582 at hf
  refine lv_aload_n hx hb dL_law_582 rfl (lv_at hl 1 rfl) ?_
  refine lv_aload_n hx hb dL_law_583 rfl (lv_at hl 0 rfl) ?_
  refine lv_iload hx hb dL_law_584 (lv_at hl 4 rfl) ?_
  refine lv_iconst (v := (1 : Int32)) hx hb dL_law_586 (by decide) ?_
  refine lv_iadd hx hb dL_law_587 ?_
  obtain ⟨hb53, hf⟩ := hf
  refine va_sld hx hb hsc.1 hsc.2.1 hsc.2.2 hR.2.2.1 hb53 dL_law_588 ?_
  refine lv_aload_n hx hb dL_law_589 rfl (lv_at hl 0 rfl) ?_
  refine lv_iload hx hb dL_law_590 (lv_at hl 4 rfl) ?_
  refine lv_iconst (v := (2 : Int32)) hx hb dL_law_592 (by decide) ?_
  refine lv_iadd hx hb dL_law_593 ?_
  obtain ⟨hb54, hf⟩ := hf
  refine va_sld hx hb hsc.1 hsc.2.1 hsc.2.2 hR.2.2.1 hb54 dL_law_594 ?_
  refine z_callVI (fr1 := 4) (b := 1) (As := [.int (xs (x4 + (1 : Int32)).toNatClampNeg), .int (xs (x4 + (2 : Int32)).toNatClampNeg)]) (rest := []) X (hr.none (by decide)) hR zy_X11_tell zq_926 (zlit hR zf_1) (by rw [zs_1]; rfl) rfl (mX11_tell  hf) rfl hl (Nat.le_of_ble_eq_true rfl) dL_law_595 rfl (fun r55 w55 H locs hf hR => ?_)
  refine lv_aload_n hx hb dL_law_598 rfl (lv_at hl 2 rfl) ?_
  refine lv_aload_n hx hb dL_law_599 rfl (lv_at hl 0 rfl) ?_
  refine lv_iload hx hb dL_law_600 (lv_at hl 4 rfl) ?_
  refine lv_iconst (v := (1 : Int32)) hx hb dL_law_602 (by decide) ?_
  refine lv_iadd hx hb dL_law_603 ?_
  refine va_sld hx hb hsc.1 hsc.2.1 hsc.2.2 hR.2.2.1 hb53 dL_law_604 ?_
  refine lv_aload_n hx hb dL_law_605 rfl (lv_at hl 0 rfl) ?_
  refine lv_iload hx hb dL_law_606 (lv_at hl 4 rfl) ?_
  refine lv_iconst (v := (2 : Int32)) hx hb dL_law_608 (by decide) ?_
  refine lv_iadd hx hb dL_law_609 ?_
  refine va_sld hx hb hsc.1 hsc.2.1 hsc.2.2 hR.2.2.1 hb54 dL_law_610 ?_
  refine z_callVI (fr1 := 2) (b := 200) (As := [.int (xs (x4 + (1 : Int32)).toNatClampNeg), .int (xs (x4 + (2 : Int32)).toNatClampNeg)]) (rest := [.int r55]) X (hr.none (by decide)) hR zy_X12_tell zq_933 (zlit hR zf_200) (by rw [zs_200]; rfl) rfl (mX12_tell  hf) rfl hl (Nat.le_of_ble_eq_true rfl) dL_law_611 rfl (fun r56 w56 H locs hf hR => ?_)
  refine lv_icmp_eq (tgt := 1479) hx hb dL_law_614 (by decide) (fun c57 => ?_) (fun c57 => ?_)
  · replace hf := hf.1 c57
    exact mL2_law_J1479 X hQ hsc hl0 hTh htw hg23 ha3 hf hX hr hR (lv_sub hl [0, 1, 2, 3, 4] rfl)
  · replace hf := hf.2 c57
    refine lv_iconst (v := (0 : Int32)) hx hb dL_law_617 (by decide) ?_
    exact hQ _ _ _ _ _ _ _ _ _ _ hX (by have := hr.2.2.1; omega) (by have := hr.2.2.2; omega) hf hR dL_law_618
set_option maxHeartbeats 4000000 in
set_option maxRecDepth 100000 in
theorem mL2_law_J619 {k : Int32 → zW → Prop} {g23 : Nat → Nat → Int32 → zW → Prop} {a3 : Nat} (X : zCx p s m args meth c cL_law 7 RL (some .boolean)) (hQ : zRetAI p l e R s m args below meth c Q D dA true ad0 al0 cL_law k) (hsc : va_X b L xs s s.heap ∧ b < s.heap.size ∧ ¬ zA ad0 al0 s.heap.size b) (hl0 : l.stackTraces = false) (hTh : zThE (zA ad0 al0 s.heap.size) s s.heap) (htw : ∀ w ∈ zTw2, w.before args s = true) (hg23 : ∀ (cells slots mc ms : Nat) (x4 : Int32) (ad : Nat → Nat) (al : Nat → Prop) (w : zW) (H : Heap) (locs : List Loc) (ls : Array Slot) (ha3 : al a3 ∧ zsh a3 = 21), g23 mc ms x4 w → zExt ad0 al0 ad al → zRm R 145 (cells + mc) (slots + ms) → zSt D dA true ad0 al0 ad al w s H locs → lv_has ls 7 [(0, .ref b), (1, .ref (ad 1)), (2, .ref (ad 200)), (3, .ref (ad a3)), (4, .int x4)] → W p l e R s m args below meth c H locs cells slots Q (F0 m 23 ls [])) {cells slots mc ms : Nat} {x4 : Int32} {ad : Nat → Nat} {al : Nat → Prop} {w : zW} {H : Heap} {locs : List Loc} {ls : Array Slot} (ha3 : al a3 ∧ zsh a3 = 21) (hf : fL_law_J619 L xs a3 k g23 mc ms x4 w) (hX : zExt ad0 al0 ad al) (hr : zRm R 145 (cells + mc) (slots + ms)) (hR : zSt D dA true ad0 al0 ad al w s H locs) (hl : lv_has ls 7 [(0, .ref b), (1, .ref (ad 1)), (2, .ref (ad 200)), (3, .ref (ad a3)), (4, .int x4)]) : W p l e R s m args below meth c H locs cells slots Q (F0 m 619 ls []) := by
  have hx := X.1
  have hb := X.2.1
  have hml := X.2.2.1
  have hown := X.2.2.2.1
  have hts := X.2.2.2.2.1
  unfold fL_law_J619 at hf
  refine lv_aload_n hx hb dL_law_619 rfl (lv_at hl 1 rfl) ?_
  refine lv_aload_n hx hb dL_law_620 rfl (lv_at hl 0 rfl) ?_
  refine lv_iload hx hb dL_law_621 (lv_at hl 4 rfl) ?_
  refine lv_iconst (v := (1 : Int32)) hx hb dL_law_623 (by decide) ?_
  refine lv_iadd hx hb dL_law_624 ?_
  obtain ⟨hb59, hf⟩ := hf
  refine va_sld hx hb hsc.1 hsc.2.1 hsc.2.2 hR.2.2.1 hb59 dL_law_625 ?_
  refine z_callVI (fr1 := 4) (b := 1) (As := [.int (xs (x4 + (1 : Int32)).toNatClampNeg)]) (rest := []) X (hr.none (by decide)) hR zy_X11_drop zq_937 (zlit hR zf_1) (by rw [zs_1]; rfl) rfl (mX11_drop  hf) rfl hl (Nat.le_of_ble_eq_true rfl) dL_law_626 rfl (fun r60 w60 H locs hf hR => ?_)
  refine lv_aload_n hx hb dL_law_629 rfl (lv_at hl 2 rfl) ?_
  refine lv_aload_n hx hb dL_law_630 rfl (lv_at hl 0 rfl) ?_
  refine lv_iload hx hb dL_law_631 (lv_at hl 4 rfl) ?_
  refine lv_iconst (v := (1 : Int32)) hx hb dL_law_633 (by decide) ?_
  refine lv_iadd hx hb dL_law_634 ?_
  refine va_sld hx hb hsc.1 hsc.2.1 hsc.2.2 hR.2.2.1 hb59 dL_law_635 ?_
  refine z_callVI (fr1 := 2) (b := 200) (As := [.int (xs (x4 + (1 : Int32)).toNatClampNeg)]) (rest := [.int r60]) X (hr.none (by decide)) hR zy_X12_drop zq_941 (zlit hR zf_200) (by rw [zs_200]; rfl) rfl (mX12_drop  hf) rfl hl (Nat.le_of_ble_eq_true rfl) dL_law_636 rfl (fun r61 w61 H locs hf hR => ?_)
  refine lv_icmp_eq (tgt := 1479) hx hb dL_law_639 (by decide) (fun c62 => ?_) (fun c62 => ?_)
  · replace hf := hf.1 c62
    exact mL2_law_J1479 X hQ hsc hl0 hTh htw hg23 ha3 hf hX hr hR (lv_sub hl [0, 1, 2, 3, 4] rfl)
  · replace hf := hf.2 c62
    refine lv_iconst (v := (0 : Int32)) hx hb dL_law_642 (by decide) ?_
    exact hQ _ _ _ _ _ _ _ _ _ _ hX (by have := hr.2.2.1; omega) (by have := hr.2.2.2; omega) hf hR dL_law_643
set_option maxHeartbeats 4000000 in
set_option maxRecDepth 100000 in
theorem mL2_law_J644 {k : Int32 → zW → Prop} {g23 : Nat → Nat → Int32 → zW → Prop} {a3 : Nat} (X : zCx p s m args meth c cL_law 7 RL (some .boolean)) (hQ : zRetAI p l e R s m args below meth c Q D dA true ad0 al0 cL_law k) (hsc : va_X b L xs s s.heap ∧ b < s.heap.size ∧ ¬ zA ad0 al0 s.heap.size b) (hl0 : l.stackTraces = false) (hTh : zThE (zA ad0 al0 s.heap.size) s s.heap) (htw : ∀ w ∈ zTw2, w.before args s = true) (hg23 : ∀ (cells slots mc ms : Nat) (x4 : Int32) (ad : Nat → Nat) (al : Nat → Prop) (w : zW) (H : Heap) (locs : List Loc) (ls : Array Slot) (ha3 : al a3 ∧ zsh a3 = 21), g23 mc ms x4 w → zExt ad0 al0 ad al → zRm R 145 (cells + mc) (slots + ms) → zSt D dA true ad0 al0 ad al w s H locs → lv_has ls 7 [(0, .ref b), (1, .ref (ad 1)), (2, .ref (ad 200)), (3, .ref (ad a3)), (4, .int x4)] → W p l e R s m args below meth c H locs cells slots Q (F0 m 23 ls [])) {cells slots mc ms : Nat} {x4 : Int32} {ad : Nat → Nat} {al : Nat → Prop} {w : zW} {H : Heap} {locs : List Loc} {ls : Array Slot} (ha3 : al a3 ∧ zsh a3 = 21) (hf : fL_law_J644 L xs a3 k g23 mc ms x4 w) (hX : zExt ad0 al0 ad al) (hr : zRm R 145 (cells + mc) (slots + ms)) (hR : zSt D dA true ad0 al0 ad al w s H locs) (hl : lv_has ls 7 [(0, .ref b), (1, .ref (ad 1)), (2, .ref (ad 200)), (3, .ref (ad a3)), (4, .int x4)]) : W p l e R s m args below meth c H locs cells slots Q (F0 m 644 ls []) := by
  have hx := X.1
  have hb := X.2.1
  have hml := X.2.2.1
  have hown := X.2.2.2.1
  have hts := X.2.2.2.2.1
  unfold fL_law_J644 at hf
  refine lv_aload_n hx hb dL_law_644 rfl (lv_at hl 1 rfl) ?_
  refine z_callVI (fr1 := 3) (b := 1) (As := []) (rest := []) X (hr.none (by decide)) hR zy_X11_undo zq_945 (zlit hR zf_1) (by rw [zs_1]; rfl) rfl (mX11_undo  hf) rfl hl (Nat.le_of_ble_eq_true rfl) dL_law_645 rfl (fun r64 w64 H locs hf hR => ?_)
  refine lv_aload_n hx hb dL_law_648 rfl (lv_at hl 2 rfl) ?_
  refine z_callVI (fr1 := 1) (b := 200) (As := []) (rest := [.int r64]) X (hr.none (by decide)) hR zy_X12_undo zq_954 (zlit hR zf_200) (by rw [zs_200]; rfl) rfl (mX12_undo  hf) rfl hl (Nat.le_of_ble_eq_true rfl) dL_law_649 rfl (fun r65 w65 H locs hf hR => ?_)
  refine lv_icmp_eq (tgt := 1479) hx hb dL_law_652 (by decide) (fun c66 => ?_) (fun c66 => ?_)
  · replace hf := hf.1 c66
    exact mL2_law_J1479 X hQ hsc hl0 hTh htw hg23 ha3 hf hX hr hR (lv_sub hl [0, 1, 2, 3, 4] rfl)
  · replace hf := hf.2 c66
    refine lv_iconst (v := (0 : Int32)) hx hb dL_law_655 (by decide) ?_
    exact hQ _ _ _ _ _ _ _ _ _ _ hX (by have := hr.2.2.1; omega) (by have := hr.2.2.2; omega) hf hR dL_law_656
set_option maxHeartbeats 4000000 in
set_option maxRecDepth 100000 in
theorem mL2_law_J657 {k : Int32 → zW → Prop} {g23 : Nat → Nat → Int32 → zW → Prop} {a3 : Nat} (X : zCx p s m args meth c cL_law 7 RL (some .boolean)) (hQ : zRetAI p l e R s m args below meth c Q D dA true ad0 al0 cL_law k) (hsc : va_X b L xs s s.heap ∧ b < s.heap.size ∧ ¬ zA ad0 al0 s.heap.size b) (hl0 : l.stackTraces = false) (hTh : zThE (zA ad0 al0 s.heap.size) s s.heap) (htw : ∀ w ∈ zTw2, w.before args s = true) (hg23 : ∀ (cells slots mc ms : Nat) (x4 : Int32) (ad : Nat → Nat) (al : Nat → Prop) (w : zW) (H : Heap) (locs : List Loc) (ls : Array Slot) (ha3 : al a3 ∧ zsh a3 = 21), g23 mc ms x4 w → zExt ad0 al0 ad al → zRm R 145 (cells + mc) (slots + ms) → zSt D dA true ad0 al0 ad al w s H locs → lv_has ls 7 [(0, .ref b), (1, .ref (ad 1)), (2, .ref (ad 200)), (3, .ref (ad a3)), (4, .int x4)] → W p l e R s m args below meth c H locs cells slots Q (F0 m 23 ls [])) {cells slots mc ms : Nat} {x4 : Int32} {ad : Nat → Nat} {al : Nat → Prop} {w : zW} {H : Heap} {locs : List Loc} {ls : Array Slot} (ha3 : al a3 ∧ zsh a3 = 21) (hf : fL_law_J657 L xs a3 k g23 mc ms x4 w) (hX : zExt ad0 al0 ad al) (hr : zRm R 145 (cells + mc) (slots + ms)) (hR : zSt D dA true ad0 al0 ad al w s H locs) (hl : lv_has ls 7 [(0, .ref b), (1, .ref (ad 1)), (2, .ref (ad 200)), (3, .ref (ad a3)), (4, .int x4)]) : W p l e R s m args below meth c H locs cells slots Q (F0 m 657 ls []) := by
  have hx := X.1
  have hb := X.2.1
  have hml := X.2.2.1
  have hown := X.2.2.2.1
  have hts := X.2.2.2.2.1
  unfold fL_law_J657 at hf
  refine lv_aload_n hx hb dL_law_657 rfl (lv_at hl 1 rfl) ?_
  refine lv_aload_n hx hb dL_law_658 rfl (lv_at hl 0 rfl) ?_
  refine lv_iload hx hb dL_law_659 (lv_at hl 4 rfl) ?_
  refine lv_iconst (v := (1 : Int32)) hx hb dL_law_661 (by decide) ?_
  refine lv_iadd hx hb dL_law_662 ?_
  obtain ⟨hb68, hf⟩ := hf
  refine va_sld hx hb hsc.1 hsc.2.1 hsc.2.2 hR.2.2.1 hb68 dL_law_663 ?_
  have hw69_1 : al 1 := (zlit hR zf_1)
  have hw69_2 : al 200 := (zlit hR zf_200)
  have hw69_3 : al a3 := ha3.1
  have hv69_1 : al 1 := (zlit hR zf_1)
  obtain ⟨c69, s69, hc69, hs69, hf⟩ := hf
  refine z_callAVI (fr1 := 5) (mc := c69) (ms := s69) (b := 1) (As := [.int (xs (x4 + (1 : Int32)).toNatClampNeg)]) (rest := []) X (hr.call hc69 hs69 (by decide)) hR zy_X11_judged zq_958 (zlit hR zf_1) (by rw [zs_1]; rfl) rfl (mX11_judged  hf) rfl hl (Nat.le_of_ble_eq_true rfl) dL_law_664 rfl (fun r69 w69 H locs ad69 al69 hf hE69 hR => ?_)
  have hX := hX.tr hE69
  have hr := hr.after hc69 hs69
  have ha3 : al69 a3 ∧ zsh a3 = 21 := ⟨(hE69 _ ha3.1).1, ha3.2⟩
  rw [← (hE69 1 hw69_1).2] at hl
  rw [← (hE69 200 hw69_2).2] at hl
  rw [← (hE69 a3 hw69_3).2] at hl
  refine lv_aload_n hx hb dL_law_667 rfl (lv_at hl 2 rfl) ?_
  refine lv_aload_n hx hb dL_law_668 rfl (lv_at hl 0 rfl) ?_
  refine lv_iload hx hb dL_law_669 (lv_at hl 4 rfl) ?_
  refine lv_iconst (v := (1 : Int32)) hx hb dL_law_671 (by decide) ?_
  refine lv_iadd hx hb dL_law_672 ?_
  refine va_sld hx hb hsc.1 hsc.2.1 hsc.2.2 hR.2.2.1 hb68 dL_law_673 ?_
  refine z_callVI (fr1 := 4) (b := 200) (As := [.int (xs (x4 + (1 : Int32)).toNatClampNeg)]) (rest := [.int r69]) X (hr.none (by decide)) hR zy_X12_judged zq_1055 (zlit hR zf_200) (by rw [zs_200]; rfl) rfl (mX12_judged  hf) rfl hl (Nat.le_of_ble_eq_true rfl) dL_law_674 rfl (fun r70 w70 H locs hf hR => ?_)
  refine lv_icmp_eq (tgt := 1479) hx hb dL_law_677 (by decide) (fun c71 => ?_) (fun c71 => ?_)
  · replace hf := hf.1 c71
    exact mL2_law_J1479 X hQ hsc hl0 hTh htw hg23 ha3 hf hX hr hR (lv_sub hl [0, 1, 2, 3, 4] rfl)
  · replace hf := hf.2 c71
    refine lv_iconst (v := (0 : Int32)) hx hb dL_law_680 (by decide) ?_
    exact hQ _ _ _ _ _ _ _ _ _ _ hX (by have := hr.2.2.1; omega) (by have := hr.2.2.2; omega) hf hR dL_law_681
set_option maxHeartbeats 4000000 in
set_option maxRecDepth 100000 in
theorem mL2_law_J682 {k : Int32 → zW → Prop} {g23 : Nat → Nat → Int32 → zW → Prop} {a3 : Nat} (X : zCx p s m args meth c cL_law 7 RL (some .boolean)) (hQ : zRetAI p l e R s m args below meth c Q D dA true ad0 al0 cL_law k) (hsc : va_X b L xs s s.heap ∧ b < s.heap.size ∧ ¬ zA ad0 al0 s.heap.size b) (hl0 : l.stackTraces = false) (hTh : zThE (zA ad0 al0 s.heap.size) s s.heap) (htw : ∀ w ∈ zTw2, w.before args s = true) (hg23 : ∀ (cells slots mc ms : Nat) (x4 : Int32) (ad : Nat → Nat) (al : Nat → Prop) (w : zW) (H : Heap) (locs : List Loc) (ls : Array Slot) (ha3 : al a3 ∧ zsh a3 = 21), g23 mc ms x4 w → zExt ad0 al0 ad al → zRm R 145 (cells + mc) (slots + ms) → zSt D dA true ad0 al0 ad al w s H locs → lv_has ls 7 [(0, .ref b), (1, .ref (ad 1)), (2, .ref (ad 200)), (3, .ref (ad a3)), (4, .int x4)] → W p l e R s m args below meth c H locs cells slots Q (F0 m 23 ls [])) {cells slots mc ms : Nat} {x4 : Int32} {ad : Nat → Nat} {al : Nat → Prop} {w : zW} {H : Heap} {locs : List Loc} {ls : Array Slot} (ha3 : al a3 ∧ zsh a3 = 21) (hf : fL_law_J682 L xs a3 k g23 mc ms x4 w) (hX : zExt ad0 al0 ad al) (hr : zRm R 145 (cells + mc) (slots + ms)) (hR : zSt D dA true ad0 al0 ad al w s H locs) (hl : lv_has ls 7 [(0, .ref b), (1, .ref (ad 1)), (2, .ref (ad 200)), (3, .ref (ad a3)), (4, .int x4)]) : W p l e R s m args below meth c H locs cells slots Q (F0 m 682 ls []) := by
  have hx := X.1
  have hb := X.2.1
  have hml := X.2.2.1
  have hown := X.2.2.2.1
  have hts := X.2.2.2.2.1
  unfold fL_law_J682 at hf
  refine lv_aload_n hx hb dL_law_682 rfl (lv_at hl 1 rfl) ?_
  have hw73_1 : al 1 := (zlit hR zf_1)
  have hw73_2 : al 200 := (zlit hR zf_200)
  have hw73_3 : al a3 := ha3.1
  have hv73_1 : al 1 := (zlit hR zf_1)
  obtain ⟨c73, s73, hc73, hs73, hf⟩ := hf
  refine z_callAVI (fr1 := 5) (mc := c73) (ms := s73) (b := 1) (As := []) (rest := []) X (hr.call hc73 hs73 (by decide)) hR zy_X11_fits zq_1099 (zlit hR zf_1) (by rw [zs_1]; rfl) rfl (mX11_fits  hf) rfl hl (Nat.le_of_ble_eq_true rfl) dL_law_683 rfl (fun r73 w73 H locs ad73 al73 hf hE73 hR => ?_)
  have hX := hX.tr hE73
  have hr := hr.after hc73 hs73
  have ha3 : al73 a3 ∧ zsh a3 = 21 := ⟨(hE73 _ ha3.1).1, ha3.2⟩
  rw [← (hE73 1 hw73_1).2] at hl
  rw [← (hE73 200 hw73_2).2] at hl
  rw [← (hE73 a3 hw73_3).2] at hl
  refine lv_aload_n hx hb dL_law_686 rfl (lv_at hl 2 rfl) ?_
  refine z_callVI (fr1 := 4) (b := 200) (As := []) (rest := [.int r73]) X (hr.none (by decide)) hR zy_X12_fits zq_1113 (zlit hR zf_200) (by rw [zs_200]; rfl) rfl (mX12_fits  hf) rfl hl (Nat.le_of_ble_eq_true rfl) dL_law_687 rfl (fun r74 w74 H locs hf hR => ?_)
  refine lv_icmp_eq (tgt := 1479) hx hb dL_law_690 (by decide) (fun c75 => ?_) (fun c75 => ?_)
  · replace hf := hf.1 c75
    exact mL2_law_J1479 X hQ hsc hl0 hTh htw hg23 ha3 hf hX hr hR (lv_sub hl [0, 1, 2, 3, 4] rfl)
  · replace hf := hf.2 c75
    refine lv_iconst (v := (0 : Int32)) hx hb dL_law_693 (by decide) ?_
    exact hQ _ _ _ _ _ _ _ _ _ _ hX (by have := hr.2.2.1; omega) (by have := hr.2.2.2; omega) hf hR dL_law_694
set_option maxHeartbeats 4000000 in
set_option maxRecDepth 100000 in
theorem mL2_law_J695 {k : Int32 → zW → Prop} {g23 : Nat → Nat → Int32 → zW → Prop} {a3 : Nat} (X : zCx p s m args meth c cL_law 7 RL (some .boolean)) (hQ : zRetAI p l e R s m args below meth c Q D dA true ad0 al0 cL_law k) (hsc : va_X b L xs s s.heap ∧ b < s.heap.size ∧ ¬ zA ad0 al0 s.heap.size b) (hl0 : l.stackTraces = false) (hTh : zThE (zA ad0 al0 s.heap.size) s s.heap) (htw : ∀ w ∈ zTw2, w.before args s = true) (hg23 : ∀ (cells slots mc ms : Nat) (x4 : Int32) (ad : Nat → Nat) (al : Nat → Prop) (w : zW) (H : Heap) (locs : List Loc) (ls : Array Slot) (ha3 : al a3 ∧ zsh a3 = 21), g23 mc ms x4 w → zExt ad0 al0 ad al → zRm R 145 (cells + mc) (slots + ms) → zSt D dA true ad0 al0 ad al w s H locs → lv_has ls 7 [(0, .ref b), (1, .ref (ad 1)), (2, .ref (ad 200)), (3, .ref (ad a3)), (4, .int x4)] → W p l e R s m args below meth c H locs cells slots Q (F0 m 23 ls [])) {cells slots mc ms : Nat} {x4 : Int32} {ad : Nat → Nat} {al : Nat → Prop} {w : zW} {H : Heap} {locs : List Loc} {ls : Array Slot} (ha3 : al a3 ∧ zsh a3 = 21) (hf : fL_law_J695 L xs a3 k g23 mc ms x4 w) (hX : zExt ad0 al0 ad al) (hr : zRm R 145 (cells + mc) (slots + ms)) (hR : zSt D dA true ad0 al0 ad al w s H locs) (hl : lv_has ls 7 [(0, .ref b), (1, .ref (ad 1)), (2, .ref (ad 200)), (3, .ref (ad a3)), (4, .int x4)]) : W p l e R s m args below meth c H locs cells slots Q (F0 m 695 ls []) := by
  have hx := X.1
  have hb := X.2.1
  have hml := X.2.2.1
  have hown := X.2.2.2.1
  have hts := X.2.2.2.2.1
  unfold fL_law_J695 at hf
  refine lv_aload_n hx hb dL_law_695 rfl (lv_at hl 1 rfl) ?_
  refine lv_aload_n hx hb dL_law_696 rfl (lv_at hl 0 rfl) ?_
  refine lv_iload hx hb dL_law_697 (lv_at hl 4 rfl) ?_
  refine lv_iconst (v := (1 : Int32)) hx hb dL_law_699 (by decide) ?_
  refine lv_iadd hx hb dL_law_700 ?_
  obtain ⟨hb77, hf⟩ := hf
  refine va_sld hx hb hsc.1 hsc.2.1 hsc.2.2 hR.2.2.1 hb77 dL_law_701 ?_
  refine lv_aload_n hx hb dL_law_702 rfl (lv_at hl 0 rfl) ?_
  refine lv_iload hx hb dL_law_703 (lv_at hl 4 rfl) ?_
  refine lv_iconst (v := (2 : Int32)) hx hb dL_law_705 (by decide) ?_
  refine lv_iadd hx hb dL_law_706 ?_
  obtain ⟨hb78, hf⟩ := hf
  refine va_sld hx hb hsc.1 hsc.2.1 hsc.2.2 hR.2.2.1 hb78 dL_law_707 ?_
  have hw79_1 : al 1 := (zlit hR zf_1)
  have hw79_2 : al 200 := (zlit hR zf_200)
  have hw79_3 : al a3 := ha3.1
  have hv79_1 : al 1 := (zlit hR zf_1)
  obtain ⟨c79, s79, hc79, hs79, hf⟩ := hf
  refine z_callAVI (fr1 := 5) (mc := c79) (ms := s79) (b := 1) (As := [.int (xs (x4 + (1 : Int32)).toNatClampNeg), .int (xs (x4 + (2 : Int32)).toNatClampNeg)]) (rest := []) X (hr.call hc79 hs79 (by decide)) hR zy_X11_entry zq_1117 (zlit hR zf_1) (by rw [zs_1]; rfl) rfl (mX11_entry  hf) rfl hl (Nat.le_of_ble_eq_true rfl) dL_law_708 rfl (fun r79 w79 H locs ad79 al79 hf hE79 hR => ?_)
  have hX := hX.tr hE79
  have hr := hr.after hc79 hs79
  have ha3 : al79 a3 ∧ zsh a3 = 21 := ⟨(hE79 _ ha3.1).1, ha3.2⟩
  rw [← (hE79 1 hw79_1).2] at hl
  rw [← (hE79 200 hw79_2).2] at hl
  rw [← (hE79 a3 hw79_3).2] at hl
  refine lv_aload_n hx hb dL_law_711 rfl (lv_at hl 2 rfl) ?_
  refine lv_aload_n hx hb dL_law_712 rfl (lv_at hl 0 rfl) ?_
  refine lv_iload hx hb dL_law_713 (lv_at hl 4 rfl) ?_
  refine lv_iconst (v := (1 : Int32)) hx hb dL_law_715 (by decide) ?_
  refine lv_iadd hx hb dL_law_716 ?_
  refine va_sld hx hb hsc.1 hsc.2.1 hsc.2.2 hR.2.2.1 hb77 dL_law_717 ?_
  refine lv_aload_n hx hb dL_law_718 rfl (lv_at hl 0 rfl) ?_
  refine lv_iload hx hb dL_law_719 (lv_at hl 4 rfl) ?_
  refine lv_iconst (v := (2 : Int32)) hx hb dL_law_721 (by decide) ?_
  refine lv_iadd hx hb dL_law_722 ?_
  refine va_sld hx hb hsc.1 hsc.2.1 hsc.2.2 hR.2.2.1 hb78 dL_law_723 ?_
  refine z_callVI (fr1 := 4) (b := 200) (As := [.int (xs (x4 + (1 : Int32)).toNatClampNeg), .int (xs (x4 + (2 : Int32)).toNatClampNeg)]) (rest := [.int r79]) X (hr.none (by decide)) hR zy_X12_entry zq_1123 (zlit hR zf_200) (by rw [zs_200]; rfl) rfl (mX12_entry  hf) rfl hl (Nat.le_of_ble_eq_true rfl) dL_law_724 rfl (fun r80 w80 H locs hf hR => ?_)
  refine lv_icmp_eq (tgt := 1479) hx hb dL_law_727 (by decide) (fun c81 => ?_) (fun c81 => ?_)
  · replace hf := hf.1 c81
    exact mL2_law_J1479 X hQ hsc hl0 hTh htw hg23 ha3 hf hX hr hR (lv_sub hl [0, 1, 2, 3, 4] rfl)
  · replace hf := hf.2 c81
    refine lv_iconst (v := (0 : Int32)) hx hb dL_law_730 (by decide) ?_
    exact hQ _ _ _ _ _ _ _ _ _ _ hX (by have := hr.2.2.1; omega) (by have := hr.2.2.2; omega) hf hR dL_law_731
set_option maxHeartbeats 4000000 in
set_option maxRecDepth 100000 in
theorem mL2_law_J732 {k : Int32 → zW → Prop} {g23 : Nat → Nat → Int32 → zW → Prop} {a3 : Nat} (X : zCx p s m args meth c cL_law 7 RL (some .boolean)) (hQ : zRetAI p l e R s m args below meth c Q D dA true ad0 al0 cL_law k) (hsc : va_X b L xs s s.heap ∧ b < s.heap.size ∧ ¬ zA ad0 al0 s.heap.size b) (hl0 : l.stackTraces = false) (hTh : zThE (zA ad0 al0 s.heap.size) s s.heap) (htw : ∀ w ∈ zTw2, w.before args s = true) (hg23 : ∀ (cells slots mc ms : Nat) (x4 : Int32) (ad : Nat → Nat) (al : Nat → Prop) (w : zW) (H : Heap) (locs : List Loc) (ls : Array Slot) (ha3 : al a3 ∧ zsh a3 = 21), g23 mc ms x4 w → zExt ad0 al0 ad al → zRm R 145 (cells + mc) (slots + ms) → zSt D dA true ad0 al0 ad al w s H locs → lv_has ls 7 [(0, .ref b), (1, .ref (ad 1)), (2, .ref (ad 200)), (3, .ref (ad a3)), (4, .int x4)] → W p l e R s m args below meth c H locs cells slots Q (F0 m 23 ls [])) {cells slots mc ms : Nat} {x4 : Int32} {ad : Nat → Nat} {al : Nat → Prop} {w : zW} {H : Heap} {locs : List Loc} {ls : Array Slot} (ha3 : al a3 ∧ zsh a3 = 21) (hf : fL_law_J732 L xs a3 k g23 mc ms x4 w) (hX : zExt ad0 al0 ad al) (hr : zRm R 145 (cells + mc) (slots + ms)) (hR : zSt D dA true ad0 al0 ad al w s H locs) (hl : lv_has ls 7 [(0, .ref b), (1, .ref (ad 1)), (2, .ref (ad 200)), (3, .ref (ad a3)), (4, .int x4)]) : W p l e R s m args below meth c H locs cells slots Q (F0 m 732 ls []) := by
  have hx := X.1
  have hb := X.2.1
  have hml := X.2.2.1
  have hown := X.2.2.2.1
  have hts := X.2.2.2.2.1
  unfold fL_law_J732 at hf
  refine lv_aload_n hx hb dL_law_732 rfl (lv_at hl 1 rfl) ?_
  refine lv_aload_n hx hb dL_law_733 rfl (lv_at hl 0 rfl) ?_
  refine lv_iload hx hb dL_law_734 (lv_at hl 4 rfl) ?_
  refine lv_iconst (v := (1 : Int32)) hx hb dL_law_736 (by decide) ?_
  refine lv_iadd hx hb dL_law_737 ?_
  obtain ⟨hb83, hf⟩ := hf
  refine va_sld hx hb hsc.1 hsc.2.1 hsc.2.2 hR.2.2.1 hb83 dL_law_738 ?_
  have hw84_1 : al 1 := (zlit hR zf_1)
  have hw84_2 : al 200 := (zlit hR zf_200)
  have hw84_3 : al a3 := ha3.1
  have hv84_1 : al 1 := (zlit hR zf_1)
  obtain ⟨c84, s84, hc84, hs84, hf⟩ := hf
  refine z_callAVI (fr1 := 6) (mc := c84) (ms := s84) (b := 1) (As := [.int (xs (x4 + (1 : Int32)).toNatClampNeg)]) (rest := []) X (hr.call hc84 hs84 (by decide)) hR zy_X11_could zq_1127 (zlit hR zf_1) (by rw [zs_1]; rfl) rfl (mX11_could  hf) rfl hl (Nat.le_of_ble_eq_true rfl) dL_law_739 rfl (fun r84 w84 H locs ad84 al84 hf hE84 hR => ?_)
  have hX := hX.tr hE84
  have hr := hr.after hc84 hs84
  have ha3 : al84 a3 ∧ zsh a3 = 21 := ⟨(hE84 _ ha3.1).1, ha3.2⟩
  rw [← (hE84 1 hw84_1).2] at hl
  rw [← (hE84 200 hw84_2).2] at hl
  rw [← (hE84 a3 hw84_3).2] at hl
  refine lv_aload_n hx hb dL_law_742 rfl (lv_at hl 2 rfl) ?_
  refine lv_aload_n hx hb dL_law_743 rfl (lv_at hl 0 rfl) ?_
  refine lv_iload hx hb dL_law_744 (lv_at hl 4 rfl) ?_
  refine lv_iconst (v := (1 : Int32)) hx hb dL_law_746 (by decide) ?_
  refine lv_iadd hx hb dL_law_747 ?_
  refine va_sld hx hb hsc.1 hsc.2.1 hsc.2.2 hR.2.2.1 hb83 dL_law_748 ?_
  refine z_callVI (fr1 := 4) (b := 200) (As := [.int (xs (x4 + (1 : Int32)).toNatClampNeg)]) (rest := [.int r84]) X (hr.none (by decide)) hR zy_X12_could zq_1153 (zlit hR zf_200) (by rw [zs_200]; rfl) rfl (mX12_could  hf) rfl hl (Nat.le_of_ble_eq_true rfl) dL_law_749 rfl (fun r85 w85 H locs hf hR => ?_)
  refine lv_icmp_eq (tgt := 1479) hx hb dL_law_752 (by decide) (fun c86 => ?_) (fun c86 => ?_)
  · replace hf := hf.1 c86
    exact mL2_law_J1479 X hQ hsc hl0 hTh htw hg23 ha3 hf hX hr hR (lv_sub hl [0, 1, 2, 3, 4] rfl)
  · replace hf := hf.2 c86
    refine lv_iconst (v := (0 : Int32)) hx hb dL_law_755 (by decide) ?_
    exact hQ _ _ _ _ _ _ _ _ _ _ hX (by have := hr.2.2.1; omega) (by have := hr.2.2.2; omega) hf hR dL_law_756
set_option maxHeartbeats 4000000 in
set_option maxRecDepth 100000 in
theorem mL2_law_J757 {k : Int32 → zW → Prop} {g23 : Nat → Nat → Int32 → zW → Prop} {a3 : Nat} (X : zCx p s m args meth c cL_law 7 RL (some .boolean)) (hQ : zRetAI p l e R s m args below meth c Q D dA true ad0 al0 cL_law k) (hsc : va_X b L xs s s.heap ∧ b < s.heap.size ∧ ¬ zA ad0 al0 s.heap.size b) (hl0 : l.stackTraces = false) (hTh : zThE (zA ad0 al0 s.heap.size) s s.heap) (htw : ∀ w ∈ zTw2, w.before args s = true) (hg23 : ∀ (cells slots mc ms : Nat) (x4 : Int32) (ad : Nat → Nat) (al : Nat → Prop) (w : zW) (H : Heap) (locs : List Loc) (ls : Array Slot) (ha3 : al a3 ∧ zsh a3 = 21), g23 mc ms x4 w → zExt ad0 al0 ad al → zRm R 145 (cells + mc) (slots + ms) → zSt D dA true ad0 al0 ad al w s H locs → lv_has ls 7 [(0, .ref b), (1, .ref (ad 1)), (2, .ref (ad 200)), (3, .ref (ad a3)), (4, .int x4)] → W p l e R s m args below meth c H locs cells slots Q (F0 m 23 ls [])) {cells slots mc ms : Nat} {x4 : Int32} {ad : Nat → Nat} {al : Nat → Prop} {w : zW} {H : Heap} {locs : List Loc} {ls : Array Slot} (ha3 : al a3 ∧ zsh a3 = 21) (hf : fL_law_J757 L xs a3 k g23 mc ms x4 w) (hX : zExt ad0 al0 ad al) (hr : zRm R 145 (cells + mc) (slots + ms)) (hR : zSt D dA true ad0 al0 ad al w s H locs) (hl : lv_has ls 7 [(0, .ref b), (1, .ref (ad 1)), (2, .ref (ad 200)), (3, .ref (ad a3)), (4, .int x4)]) : W p l e R s m args below meth c H locs cells slots Q (F0 m 757 ls []) := by
  have hx := X.1
  have hb := X.2.1
  have hml := X.2.2.1
  have hown := X.2.2.2.1
  have hts := X.2.2.2.2.1
  unfold fL_law_J757 at hf
  refine lv_aload_n hx hb dL_law_757 rfl (lv_at hl 1 rfl) ?_
  refine lv_aload_n hx hb dL_law_758 rfl (lv_at hl 0 rfl) ?_
  refine lv_iload hx hb dL_law_759 (lv_at hl 4 rfl) ?_
  refine lv_iconst (v := (1 : Int32)) hx hb dL_law_761 (by decide) ?_
  refine lv_iadd hx hb dL_law_762 ?_
  obtain ⟨hb88, hf⟩ := hf
  refine va_sld hx hb hsc.1 hsc.2.1 hsc.2.2 hR.2.2.1 hb88 dL_law_763 ?_
  have hw89_1 : al 1 := (zlit hR zf_1)
  have hw89_2 : al 200 := (zlit hR zf_200)
  have hw89_3 : al a3 := ha3.1
  have hv89_1 : al 1 := (zlit hR zf_1)
  obtain ⟨c89, s89, hc89, hs89, hf⟩ := hf
  refine z_callAVI (fr1 := 6) (mc := c89) (ms := s89) (b := 1) (As := [.int (xs (x4 + (1 : Int32)).toNatClampNeg)]) (rest := []) X (hr.call hc89 hs89 (by decide)) hR zy_X11_sure zq_1157 (zlit hR zf_1) (by rw [zs_1]; rfl) rfl (mX11_sure  hf) rfl hl (Nat.le_of_ble_eq_true rfl) dL_law_764 rfl (fun r89 w89 H locs ad89 al89 hf hE89 hR => ?_)
  have hX := hX.tr hE89
  have hr := hr.after hc89 hs89
  have ha3 : al89 a3 ∧ zsh a3 = 21 := ⟨(hE89 _ ha3.1).1, ha3.2⟩
  rw [← (hE89 1 hw89_1).2] at hl
  rw [← (hE89 200 hw89_2).2] at hl
  rw [← (hE89 a3 hw89_3).2] at hl
  refine lv_aload_n hx hb dL_law_767 rfl (lv_at hl 2 rfl) ?_
  refine lv_aload_n hx hb dL_law_768 rfl (lv_at hl 0 rfl) ?_
  refine lv_iload hx hb dL_law_769 (lv_at hl 4 rfl) ?_
  refine lv_iconst (v := (1 : Int32)) hx hb dL_law_771 (by decide) ?_
  refine lv_iadd hx hb dL_law_772 ?_
  refine va_sld hx hb hsc.1 hsc.2.1 hsc.2.2 hR.2.2.1 hb88 dL_law_773 ?_
  refine z_callVI (fr1 := 4) (b := 200) (As := [.int (xs (x4 + (1 : Int32)).toNatClampNeg)]) (rest := [.int r89]) X (hr.none (by decide)) hR zy_X12_sure zq_1173 (zlit hR zf_200) (by rw [zs_200]; rfl) rfl (mX12_sure  hf) rfl hl (Nat.le_of_ble_eq_true rfl) dL_law_774 rfl (fun r90 w90 H locs hf hR => ?_)
  refine lv_icmp_eq (tgt := 1479) hx hb dL_law_777 (by decide) (fun c91 => ?_) (fun c91 => ?_)
  · replace hf := hf.1 c91
    exact mL2_law_J1479 X hQ hsc hl0 hTh htw hg23 ha3 hf hX hr hR (lv_sub hl [0, 1, 2, 3, 4] rfl)
  · replace hf := hf.2 c91
    refine lv_iconst (v := (0 : Int32)) hx hb dL_law_780 (by decide) ?_
    exact hQ _ _ _ _ _ _ _ _ _ _ hX (by have := hr.2.2.1; omega) (by have := hr.2.2.2; omega) hf hR dL_law_781
set_option maxHeartbeats 4000000 in
set_option maxRecDepth 100000 in
theorem mL2_law_J782 {k : Int32 → zW → Prop} {g23 : Nat → Nat → Int32 → zW → Prop} {a3 : Nat} (X : zCx p s m args meth c cL_law 7 RL (some .boolean)) (hQ : zRetAI p l e R s m args below meth c Q D dA true ad0 al0 cL_law k) (hsc : va_X b L xs s s.heap ∧ b < s.heap.size ∧ ¬ zA ad0 al0 s.heap.size b) (hl0 : l.stackTraces = false) (hTh : zThE (zA ad0 al0 s.heap.size) s s.heap) (htw : ∀ w ∈ zTw2, w.before args s = true) (hg23 : ∀ (cells slots mc ms : Nat) (x4 : Int32) (ad : Nat → Nat) (al : Nat → Prop) (w : zW) (H : Heap) (locs : List Loc) (ls : Array Slot) (ha3 : al a3 ∧ zsh a3 = 21), g23 mc ms x4 w → zExt ad0 al0 ad al → zRm R 145 (cells + mc) (slots + ms) → zSt D dA true ad0 al0 ad al w s H locs → lv_has ls 7 [(0, .ref b), (1, .ref (ad 1)), (2, .ref (ad 200)), (3, .ref (ad a3)), (4, .int x4)] → W p l e R s m args below meth c H locs cells slots Q (F0 m 23 ls [])) {cells slots mc ms : Nat} {x4 : Int32} {ad : Nat → Nat} {al : Nat → Prop} {w : zW} {H : Heap} {locs : List Loc} {ls : Array Slot} (ha3 : al a3 ∧ zsh a3 = 21) (hf : fL_law_J782 L xs a3 k g23 mc ms x4 w) (hX : zExt ad0 al0 ad al) (hr : zRm R 145 (cells + mc) (slots + ms)) (hR : zSt D dA true ad0 al0 ad al w s H locs) (hl : lv_has ls 7 [(0, .ref b), (1, .ref (ad 1)), (2, .ref (ad 200)), (3, .ref (ad a3)), (4, .int x4)]) : W p l e R s m args below meth c H locs cells slots Q (F0 m 782 ls []) := by
  have hx := X.1
  have hb := X.2.1
  have hml := X.2.2.1
  have hown := X.2.2.2.1
  have hts := X.2.2.2.2.1
  unfold fL_law_J782 at hf
  refine lv_aload_n hx hb dL_law_782 rfl (lv_at hl 1 rfl) ?_
  have hw93_1 : al 1 := (zlit hR zf_1)
  have hw93_2 : al 200 := (zlit hR zf_200)
  have hw93_3 : al a3 := ha3.1
  have hv93_1 : al 1 := (zlit hR zf_1)
  obtain ⟨c93, s93, hc93, hs93, hf⟩ := hf
  refine z_callAVI (fr1 := 6) (mc := c93) (ms := s93) (b := 1) (As := []) (rest := []) X (hr.call hc93 hs93 (by decide)) hR zy_X11_fixed zq_1181 (zlit hR zf_1) (by rw [zs_1]; rfl) rfl (mX11_fixed  hf) rfl hl (Nat.le_of_ble_eq_true rfl) dL_law_783 rfl (fun r93 w93 H locs ad93 al93 hf hE93 hR => ?_)
  have hX := hX.tr hE93
  have hr := hr.after hc93 hs93
  have ha3 : al93 a3 ∧ zsh a3 = 21 := ⟨(hE93 _ ha3.1).1, ha3.2⟩
  rw [← (hE93 1 hw93_1).2] at hl
  rw [← (hE93 200 hw93_2).2] at hl
  rw [← (hE93 a3 hw93_3).2] at hl
  refine lv_aload_n hx hb dL_law_786 rfl (lv_at hl 2 rfl) ?_
  refine z_callVI (fr1 := 4) (b := 200) (As := []) (rest := [.int r93]) X (hr.none (by decide)) hR zy_X12_fixed zq_1185 (zlit hR zf_200) (by rw [zs_200]; rfl) rfl (mX12_fixed  hf) rfl hl (Nat.le_of_ble_eq_true rfl) dL_law_787 rfl (fun r94 w94 H locs hf hR => ?_)
  refine lv_icmp_eq (tgt := 1479) hx hb dL_law_790 (by decide) (fun c95 => ?_) (fun c95 => ?_)
  · replace hf := hf.1 c95
    exact mL2_law_J1479 X hQ hsc hl0 hTh htw hg23 ha3 hf hX hr hR (lv_sub hl [0, 1, 2, 3, 4] rfl)
  · replace hf := hf.2 c95
    refine lv_iconst (v := (0 : Int32)) hx hb dL_law_793 (by decide) ?_
    exact hQ _ _ _ _ _ _ _ _ _ _ hX (by have := hr.2.2.1; omega) (by have := hr.2.2.2; omega) hf hR dL_law_794
set_option maxHeartbeats 4000000 in
set_option maxRecDepth 100000 in
theorem mL2_law_J795 {k : Int32 → zW → Prop} {g23 : Nat → Nat → Int32 → zW → Prop} {a3 : Nat} (X : zCx p s m args meth c cL_law 7 RL (some .boolean)) (hQ : zRetAI p l e R s m args below meth c Q D dA true ad0 al0 cL_law k) (hsc : va_X b L xs s s.heap ∧ b < s.heap.size ∧ ¬ zA ad0 al0 s.heap.size b) (hl0 : l.stackTraces = false) (hTh : zThE (zA ad0 al0 s.heap.size) s s.heap) (htw : ∀ w ∈ zTw2, w.before args s = true) (hg23 : ∀ (cells slots mc ms : Nat) (x4 : Int32) (ad : Nat → Nat) (al : Nat → Prop) (w : zW) (H : Heap) (locs : List Loc) (ls : Array Slot) (ha3 : al a3 ∧ zsh a3 = 21), g23 mc ms x4 w → zExt ad0 al0 ad al → zRm R 145 (cells + mc) (slots + ms) → zSt D dA true ad0 al0 ad al w s H locs → lv_has ls 7 [(0, .ref b), (1, .ref (ad 1)), (2, .ref (ad 200)), (3, .ref (ad a3)), (4, .int x4)] → W p l e R s m args below meth c H locs cells slots Q (F0 m 23 ls [])) {cells slots mc ms : Nat} {x4 : Int32} {ad : Nat → Nat} {al : Nat → Prop} {w : zW} {H : Heap} {locs : List Loc} {ls : Array Slot} (ha3 : al a3 ∧ zsh a3 = 21) (hf : fL_law_J795 L xs a3 k g23 mc ms x4 w) (hX : zExt ad0 al0 ad al) (hr : zRm R 145 (cells + mc) (slots + ms)) (hR : zSt D dA true ad0 al0 ad al w s H locs) (hl : lv_has ls 7 [(0, .ref b), (1, .ref (ad 1)), (2, .ref (ad 200)), (3, .ref (ad a3)), (4, .int x4)]) : W p l e R s m args below meth c H locs cells slots Q (F0 m 795 ls []) := by
  have hx := X.1
  have hb := X.2.1
  have hml := X.2.2.1
  have hown := X.2.2.2.1
  have hts := X.2.2.2.2.1
  unfold fL_law_J795 at hf
  refine lv_aload_n hx hb dL_law_795 rfl (lv_at hl 1 rfl) ?_
  refine lv_aload_n hx hb dL_law_796 rfl (lv_at hl 0 rfl) ?_
  refine lv_iload hx hb dL_law_797 (lv_at hl 4 rfl) ?_
  refine lv_iconst (v := (1 : Int32)) hx hb dL_law_799 (by decide) ?_
  refine lv_iadd hx hb dL_law_800 ?_
  obtain ⟨hb97, hf⟩ := hf
  refine va_sld hx hb hsc.1 hsc.2.1 hsc.2.2 hR.2.2.1 hb97 dL_law_801 ?_
  refine lv_aload_n hx hb dL_law_802 rfl (lv_at hl 0 rfl) ?_
  refine lv_iload hx hb dL_law_803 (lv_at hl 4 rfl) ?_
  refine lv_iconst (v := (2 : Int32)) hx hb dL_law_805 (by decide) ?_
  refine lv_iadd hx hb dL_law_806 ?_
  obtain ⟨hb98, hf⟩ := hf
  refine va_sld hx hb hsc.1 hsc.2.1 hsc.2.2 hR.2.2.1 hb98 dL_law_807 ?_
  refine lv_aload_n hx hb dL_law_808 rfl (lv_at hl 0 rfl) ?_
  refine lv_iload hx hb dL_law_809 (lv_at hl 4 rfl) ?_
  refine lv_iconst (v := (3 : Int32)) hx hb dL_law_811 (by decide) ?_
  refine lv_iadd hx hb dL_law_812 ?_
  obtain ⟨hb99, hf⟩ := hf
  refine va_sld hx hb hsc.1 hsc.2.1 hsc.2.2 hR.2.2.1 hb99 dL_law_813 ?_
  have hw100_1 : al 1 := (zlit hR zf_1)
  have hw100_2 : al 200 := (zlit hR zf_200)
  have hw100_3 : al a3 := ha3.1
  have hv100_1 : al 1 := (zlit hR zf_1)
  obtain ⟨c100, s100, hc100, hs100, hf⟩ := hf
  refine z_callAVI (fr1 := 6) (mc := c100) (ms := s100) (b := 1) (As := [.int (xs (x4 + (1 : Int32)).toNatClampNeg), .int (xs (x4 + (2 : Int32)).toNatClampNeg), .int (xs (x4 + (3 : Int32)).toNatClampNeg)]) (rest := []) X (hr.call hc100 hs100 (by decide)) hR zy_X11_with zq_1189 (zlit hR zf_1) (by rw [zs_1]; rfl) rfl (mX11_with  hf) rfl hl (Nat.le_of_ble_eq_true rfl) dL_law_814 rfl (fun r100 w100 H locs ad100 al100 hf hE100 hR => ?_)
  have hX := hX.tr hE100
  have hr := hr.after hc100 hs100
  have ha3 : al100 a3 ∧ zsh a3 = 21 := ⟨(hE100 _ ha3.1).1, ha3.2⟩
  rw [← (hE100 1 hw100_1).2] at hl
  rw [← (hE100 200 hw100_2).2] at hl
  rw [← (hE100 a3 hw100_3).2] at hl
  refine lv_aload_n hx hb dL_law_817 rfl (lv_at hl 2 rfl) ?_
  refine lv_aload_n hx hb dL_law_818 rfl (lv_at hl 0 rfl) ?_
  refine lv_iload hx hb dL_law_819 (lv_at hl 4 rfl) ?_
  refine lv_iconst (v := (1 : Int32)) hx hb dL_law_821 (by decide) ?_
  refine lv_iadd hx hb dL_law_822 ?_
  refine va_sld hx hb hsc.1 hsc.2.1 hsc.2.2 hR.2.2.1 hb97 dL_law_823 ?_
  refine lv_aload_n hx hb dL_law_824 rfl (lv_at hl 0 rfl) ?_
  refine lv_iload hx hb dL_law_825 (lv_at hl 4 rfl) ?_
  refine lv_iconst (v := (2 : Int32)) hx hb dL_law_827 (by decide) ?_
  refine lv_iadd hx hb dL_law_828 ?_
  refine va_sld hx hb hsc.1 hsc.2.1 hsc.2.2 hR.2.2.1 hb98 dL_law_829 ?_
  refine lv_aload_n hx hb dL_law_830 rfl (lv_at hl 0 rfl) ?_
  refine lv_iload hx hb dL_law_831 (lv_at hl 4 rfl) ?_
  refine lv_iconst (v := (3 : Int32)) hx hb dL_law_833 (by decide) ?_
  refine lv_iadd hx hb dL_law_834 ?_
  refine va_sld hx hb hsc.1 hsc.2.1 hsc.2.2 hR.2.2.1 hb99 dL_law_835 ?_
  refine z_callVI (fr1 := 4) (b := 200) (As := [.int (xs (x4 + (1 : Int32)).toNatClampNeg), .int (xs (x4 + (2 : Int32)).toNatClampNeg), .int (xs (x4 + (3 : Int32)).toNatClampNeg)]) (rest := [.int r100]) X (hr.none (by decide)) hR zy_X12_with zq_1197 (zlit hR zf_200) (by rw [zs_200]; rfl) rfl (mX12_with  hf) rfl hl (Nat.le_of_ble_eq_true rfl) dL_law_836 rfl (fun r101 w101 H locs hf hR => ?_)
  refine lv_icmp_eq (tgt := 1479) hx hb dL_law_839 (by decide) (fun c102 => ?_) (fun c102 => ?_)
  · replace hf := hf.1 c102
    exact mL2_law_J1479 X hQ hsc hl0 hTh htw hg23 ha3 hf hX hr hR (lv_sub hl [0, 1, 2, 3, 4] rfl)
  · replace hf := hf.2 c102
    refine lv_iconst (v := (0 : Int32)) hx hb dL_law_842 (by decide) ?_
    exact hQ _ _ _ _ _ _ _ _ _ _ hX (by have := hr.2.2.1; omega) (by have := hr.2.2.2; omega) hf hR dL_law_843
set_option maxHeartbeats 4000000 in
set_option maxRecDepth 100000 in
theorem mL2_law_J844 {k : Int32 → zW → Prop} {g23 : Nat → Nat → Int32 → zW → Prop} {a3 : Nat} (X : zCx p s m args meth c cL_law 7 RL (some .boolean)) (hQ : zRetAI p l e R s m args below meth c Q D dA true ad0 al0 cL_law k) (hsc : va_X b L xs s s.heap ∧ b < s.heap.size ∧ ¬ zA ad0 al0 s.heap.size b) (hl0 : l.stackTraces = false) (hTh : zThE (zA ad0 al0 s.heap.size) s s.heap) (htw : ∀ w ∈ zTw2, w.before args s = true) (hg23 : ∀ (cells slots mc ms : Nat) (x4 : Int32) (ad : Nat → Nat) (al : Nat → Prop) (w : zW) (H : Heap) (locs : List Loc) (ls : Array Slot) (ha3 : al a3 ∧ zsh a3 = 21), g23 mc ms x4 w → zExt ad0 al0 ad al → zRm R 145 (cells + mc) (slots + ms) → zSt D dA true ad0 al0 ad al w s H locs → lv_has ls 7 [(0, .ref b), (1, .ref (ad 1)), (2, .ref (ad 200)), (3, .ref (ad a3)), (4, .int x4)] → W p l e R s m args below meth c H locs cells slots Q (F0 m 23 ls [])) {cells slots mc ms : Nat} {x4 : Int32} {ad : Nat → Nat} {al : Nat → Prop} {w : zW} {H : Heap} {locs : List Loc} {ls : Array Slot} (ha3 : al a3 ∧ zsh a3 = 21) (hf : fL_law_J844 L xs a3 k g23 mc ms x4 w) (hX : zExt ad0 al0 ad al) (hr : zRm R 145 (cells + mc) (slots + ms)) (hR : zSt D dA true ad0 al0 ad al w s H locs) (hl : lv_has ls 7 [(0, .ref b), (1, .ref (ad 1)), (2, .ref (ad 200)), (3, .ref (ad a3)), (4, .int x4)]) : W p l e R s m args below meth c H locs cells slots Q (F0 m 844 ls []) := by
  have hx := X.1
  have hb := X.2.1
  have hml := X.2.2.1
  have hown := X.2.2.2.1
  have hts := X.2.2.2.2.1
  unfold fL_law_J844 at hf
  refine lv_aload_n hx hb dL_law_844 rfl (lv_at hl 1 rfl) ?_
  refine lv_aload_n hx hb dL_law_845 rfl (lv_at hl 0 rfl) ?_
  refine lv_iload hx hb dL_law_846 (lv_at hl 4 rfl) ?_
  refine lv_iconst (v := (1 : Int32)) hx hb dL_law_848 (by decide) ?_
  refine lv_iadd hx hb dL_law_849 ?_
  obtain ⟨hb104, hf⟩ := hf
  refine va_sld hx hb hsc.1 hsc.2.1 hsc.2.2 hR.2.2.1 hb104 dL_law_850 ?_
  have hw105_1 : al 1 := (zlit hR zf_1)
  have hw105_2 : al 200 := (zlit hR zf_200)
  have hw105_3 : al a3 := ha3.1
  have hv105_1 : al 1 := (zlit hR zf_1)
  obtain ⟨c105, s105, hc105, hs105, hf⟩ := hf
  refine z_callAVI (fr1 := 6) (mc := c105) (ms := s105) (b := 1) (As := [.int (xs (x4 + (1 : Int32)).toNatClampNeg)]) (rest := []) X (hr.call hc105 hs105 (by decide)) hR zy_X11_least zq_1201 (zlit hR zf_1) (by rw [zs_1]; rfl) rfl (mX11_least  hf) rfl hl (Nat.le_of_ble_eq_true rfl) dL_law_851 rfl (fun r105 w105 H locs ad105 al105 hf hE105 hR => ?_)
  have hX := hX.tr hE105
  have hr := hr.after hc105 hs105
  have ha3 : al105 a3 ∧ zsh a3 = 21 := ⟨(hE105 _ ha3.1).1, ha3.2⟩
  rw [← (hE105 1 hw105_1).2] at hl
  rw [← (hE105 200 hw105_2).2] at hl
  rw [← (hE105 a3 hw105_3).2] at hl
  refine lv_aload_n hx hb dL_law_854 rfl (lv_at hl 2 rfl) ?_
  refine lv_aload_n hx hb dL_law_855 rfl (lv_at hl 0 rfl) ?_
  refine lv_iload hx hb dL_law_856 (lv_at hl 4 rfl) ?_
  refine lv_iconst (v := (1 : Int32)) hx hb dL_law_858 (by decide) ?_
  refine lv_iadd hx hb dL_law_859 ?_
  refine va_sld hx hb hsc.1 hsc.2.1 hsc.2.2 hR.2.2.1 hb104 dL_law_860 ?_
  refine z_callVI (fr1 := 4) (b := 200) (As := [.int (xs (x4 + (1 : Int32)).toNatClampNeg)]) (rest := [.int r105]) X (hr.none (by decide)) hR zy_X12_least zq_1215 (zlit hR zf_200) (by rw [zs_200]; rfl) rfl (mX12_least  hf) rfl hl (Nat.le_of_ble_eq_true rfl) dL_law_861 rfl (fun r106 w106 H locs hf hR => ?_)
  refine lv_icmp_eq (tgt := 1479) hx hb dL_law_864 (by decide) (fun c107 => ?_) (fun c107 => ?_)
  · replace hf := hf.1 c107
    exact mL2_law_J1479 X hQ hsc hl0 hTh htw hg23 ha3 hf hX hr hR (lv_sub hl [0, 1, 2, 3, 4] rfl)
  · replace hf := hf.2 c107
    refine lv_iconst (v := (0 : Int32)) hx hb dL_law_867 (by decide) ?_
    exact hQ _ _ _ _ _ _ _ _ _ _ hX (by have := hr.2.2.1; omega) (by have := hr.2.2.2; omega) hf hR dL_law_868
set_option maxHeartbeats 4000000 in
set_option maxRecDepth 100000 in
theorem mL2_law_J869 {k : Int32 → zW → Prop} {g23 : Nat → Nat → Int32 → zW → Prop} {a3 : Nat} (X : zCx p s m args meth c cL_law 7 RL (some .boolean)) (hQ : zRetAI p l e R s m args below meth c Q D dA true ad0 al0 cL_law k) (hsc : va_X b L xs s s.heap ∧ b < s.heap.size ∧ ¬ zA ad0 al0 s.heap.size b) (hl0 : l.stackTraces = false) (hTh : zThE (zA ad0 al0 s.heap.size) s s.heap) (htw : ∀ w ∈ zTw2, w.before args s = true) (hg23 : ∀ (cells slots mc ms : Nat) (x4 : Int32) (ad : Nat → Nat) (al : Nat → Prop) (w : zW) (H : Heap) (locs : List Loc) (ls : Array Slot) (ha3 : al a3 ∧ zsh a3 = 21), g23 mc ms x4 w → zExt ad0 al0 ad al → zRm R 145 (cells + mc) (slots + ms) → zSt D dA true ad0 al0 ad al w s H locs → lv_has ls 7 [(0, .ref b), (1, .ref (ad 1)), (2, .ref (ad 200)), (3, .ref (ad a3)), (4, .int x4)] → W p l e R s m args below meth c H locs cells slots Q (F0 m 23 ls [])) {cells slots mc ms : Nat} {x4 : Int32} {ad : Nat → Nat} {al : Nat → Prop} {w : zW} {H : Heap} {locs : List Loc} {ls : Array Slot} (ha3 : al a3 ∧ zsh a3 = 21) (hf : fL_law_J869 L xs a3 k g23 mc ms x4 w) (hX : zExt ad0 al0 ad al) (hr : zRm R 145 (cells + mc) (slots + ms)) (hR : zSt D dA true ad0 al0 ad al w s H locs) (hl : lv_has ls 7 [(0, .ref b), (1, .ref (ad 1)), (2, .ref (ad 200)), (3, .ref (ad a3)), (4, .int x4)]) : W p l e R s m args below meth c H locs cells slots Q (F0 m 869 ls []) := by
  have hx := X.1
  have hb := X.2.1
  have hml := X.2.2.1
  have hown := X.2.2.2.1
  have hts := X.2.2.2.2.1
  unfold fL_law_J869 at hf
  refine lv_aload_n hx hb dL_law_869 rfl (lv_at hl 1 rfl) ?_
  refine lv_aload_n hx hb dL_law_870 rfl (lv_at hl 0 rfl) ?_
  refine lv_iload hx hb dL_law_871 (lv_at hl 4 rfl) ?_
  refine lv_iconst (v := (1 : Int32)) hx hb dL_law_873 (by decide) ?_
  refine lv_iadd hx hb dL_law_874 ?_
  obtain ⟨hb109, hf⟩ := hf
  refine va_sld hx hb hsc.1 hsc.2.1 hsc.2.2 hR.2.2.1 hb109 dL_law_875 ?_
  have hw110_1 : al 1 := (zlit hR zf_1)
  have hw110_2 : al 200 := (zlit hR zf_200)
  have hw110_3 : al a3 := ha3.1
  have hv110_1 : al 1 := (zlit hR zf_1)
  obtain ⟨c110, s110, hc110, hs110, hf⟩ := hf
  refine z_callAVI (fr1 := 6) (mc := c110) (ms := s110) (b := 1) (As := [.int (xs (x4 + (1 : Int32)).toNatClampNeg)]) (rest := []) X (hr.call hc110 hs110 (by decide)) hR zy_X11_most zq_1223 (zlit hR zf_1) (by rw [zs_1]; rfl) rfl (mX11_most  hf) rfl hl (Nat.le_of_ble_eq_true rfl) dL_law_876 rfl (fun r110 w110 H locs ad110 al110 hf hE110 hR => ?_)
  have hX := hX.tr hE110
  have hr := hr.after hc110 hs110
  have ha3 : al110 a3 ∧ zsh a3 = 21 := ⟨(hE110 _ ha3.1).1, ha3.2⟩
  rw [← (hE110 1 hw110_1).2] at hl
  rw [← (hE110 200 hw110_2).2] at hl
  rw [← (hE110 a3 hw110_3).2] at hl
  refine lv_aload_n hx hb dL_law_879 rfl (lv_at hl 2 rfl) ?_
  refine lv_aload_n hx hb dL_law_880 rfl (lv_at hl 0 rfl) ?_
  refine lv_iload hx hb dL_law_881 (lv_at hl 4 rfl) ?_
  refine lv_iconst (v := (1 : Int32)) hx hb dL_law_883 (by decide) ?_
  refine lv_iadd hx hb dL_law_884 ?_
  refine va_sld hx hb hsc.1 hsc.2.1 hsc.2.2 hR.2.2.1 hb109 dL_law_885 ?_
  refine z_callVI (fr1 := 4) (b := 200) (As := [.int (xs (x4 + (1 : Int32)).toNatClampNeg)]) (rest := [.int r110]) X (hr.none (by decide)) hR zy_X12_most zq_1228 (zlit hR zf_200) (by rw [zs_200]; rfl) rfl (mX12_most  hf) rfl hl (Nat.le_of_ble_eq_true rfl) dL_law_886 rfl (fun r111 w111 H locs hf hR => ?_)
  refine lv_icmp_eq (tgt := 1479) hx hb dL_law_889 (by decide) (fun c112 => ?_) (fun c112 => ?_)
  · replace hf := hf.1 c112
    exact mL2_law_J1479 X hQ hsc hl0 hTh htw hg23 ha3 hf hX hr hR (lv_sub hl [0, 1, 2, 3, 4] rfl)
  · replace hf := hf.2 c112
    refine lv_iconst (v := (0 : Int32)) hx hb dL_law_892 (by decide) ?_
    exact hQ _ _ _ _ _ _ _ _ _ _ hX (by have := hr.2.2.1; omega) (by have := hr.2.2.2; omega) hf hR dL_law_893
set_option maxHeartbeats 4000000 in
set_option maxRecDepth 100000 in
theorem mL2_law_J894 {k : Int32 → zW → Prop} {g23 : Nat → Nat → Int32 → zW → Prop} {a3 : Nat} (X : zCx p s m args meth c cL_law 7 RL (some .boolean)) (hQ : zRetAI p l e R s m args below meth c Q D dA true ad0 al0 cL_law k) (hsc : va_X b L xs s s.heap ∧ b < s.heap.size ∧ ¬ zA ad0 al0 s.heap.size b) (hl0 : l.stackTraces = false) (hTh : zThE (zA ad0 al0 s.heap.size) s s.heap) (htw : ∀ w ∈ zTw2, w.before args s = true) (hg23 : ∀ (cells slots mc ms : Nat) (x4 : Int32) (ad : Nat → Nat) (al : Nat → Prop) (w : zW) (H : Heap) (locs : List Loc) (ls : Array Slot) (ha3 : al a3 ∧ zsh a3 = 21), g23 mc ms x4 w → zExt ad0 al0 ad al → zRm R 145 (cells + mc) (slots + ms) → zSt D dA true ad0 al0 ad al w s H locs → lv_has ls 7 [(0, .ref b), (1, .ref (ad 1)), (2, .ref (ad 200)), (3, .ref (ad a3)), (4, .int x4)] → W p l e R s m args below meth c H locs cells slots Q (F0 m 23 ls [])) {cells slots mc ms : Nat} {x4 : Int32} {ad : Nat → Nat} {al : Nat → Prop} {w : zW} {H : Heap} {locs : List Loc} {ls : Array Slot} (ha3 : al a3 ∧ zsh a3 = 21) (hf : fL_law_J894 L xs a3 k g23 mc ms x4 w) (hX : zExt ad0 al0 ad al) (hr : zRm R 145 (cells + mc) (slots + ms)) (hR : zSt D dA true ad0 al0 ad al w s H locs) (hl : lv_has ls 7 [(0, .ref b), (1, .ref (ad 1)), (2, .ref (ad 200)), (3, .ref (ad a3)), (4, .int x4)]) : W p l e R s m args below meth c H locs cells slots Q (F0 m 894 ls []) := by
  have hx := X.1
  have hb := X.2.1
  have hml := X.2.2.1
  have hown := X.2.2.2.1
  have hts := X.2.2.2.2.1
  unfold fL_law_J894 at hf
  refine lv_aload_n hx hb dL_law_894 rfl (lv_at hl 1 rfl) ?_
  refine lv_aload_n hx hb dL_law_895 rfl (lv_at hl 0 rfl) ?_
  refine lv_iload hx hb dL_law_896 (lv_at hl 4 rfl) ?_
  refine lv_iconst (v := (1 : Int32)) hx hb dL_law_898 (by decide) ?_
  refine lv_iadd hx hb dL_law_899 ?_
  obtain ⟨hb114, hf⟩ := hf
  refine va_sld hx hb hsc.1 hsc.2.1 hsc.2.2 hR.2.2.1 hb114 dL_law_900 ?_
  have hw115_1 : al 1 := (zlit hR zf_1)
  have hw115_2 : al 200 := (zlit hR zf_200)
  have hw115_3 : al a3 := ha3.1
  have hv115_1 : al 1 := (zlit hR zf_1)
  obtain ⟨c115, s115, hc115, hs115, hf⟩ := hf
  refine z_callAVI (fr1 := 6) (mc := c115) (ms := s115) (b := 1) (As := [.int (xs (x4 + (1 : Int32)).toNatClampNeg)]) (rest := []) X (hr.call hc115 hs115 (by decide)) hR zy_X11_kinds zq_1236 (zlit hR zf_1) (by rw [zs_1]; rfl) rfl (mX11_kinds  hf) rfl hl (Nat.le_of_ble_eq_true rfl) dL_law_901 rfl (fun r115 w115 H locs ad115 al115 hf hE115 hR => ?_)
  have hX := hX.tr hE115
  have hr := hr.after hc115 hs115
  have ha3 : al115 a3 ∧ zsh a3 = 21 := ⟨(hE115 _ ha3.1).1, ha3.2⟩
  rw [← (hE115 1 hw115_1).2] at hl
  rw [← (hE115 200 hw115_2).2] at hl
  rw [← (hE115 a3 hw115_3).2] at hl
  refine lv_aload_n hx hb dL_law_904 rfl (lv_at hl 2 rfl) ?_
  refine lv_aload_n hx hb dL_law_905 rfl (lv_at hl 0 rfl) ?_
  refine lv_iload hx hb dL_law_906 (lv_at hl 4 rfl) ?_
  refine lv_iconst (v := (1 : Int32)) hx hb dL_law_908 (by decide) ?_
  refine lv_iadd hx hb dL_law_909 ?_
  refine va_sld hx hb hsc.1 hsc.2.1 hsc.2.2 hR.2.2.1 hb114 dL_law_910 ?_
  refine z_callVI (fr1 := 4) (b := 200) (As := [.int (xs (x4 + (1 : Int32)).toNatClampNeg)]) (rest := [.int r115]) X (hr.none (by decide)) hR zy_X12_kinds zq_1244 (zlit hR zf_200) (by rw [zs_200]; rfl) rfl (mX12_kinds  hf) rfl hl (Nat.le_of_ble_eq_true rfl) dL_law_911 rfl (fun r116 w116 H locs hf hR => ?_)
  refine lv_icmp_eq (tgt := 1479) hx hb dL_law_914 (by decide) (fun c117 => ?_) (fun c117 => ?_)
  · replace hf := hf.1 c117
    exact mL2_law_J1479 X hQ hsc hl0 hTh htw hg23 ha3 hf hX hr hR (lv_sub hl [0, 1, 2, 3, 4] rfl)
  · replace hf := hf.2 c117
    refine lv_iconst (v := (0 : Int32)) hx hb dL_law_917 (by decide) ?_
    exact hQ _ _ _ _ _ _ _ _ _ _ hX (by have := hr.2.2.1; omega) (by have := hr.2.2.2; omega) hf hR dL_law_918
set_option maxHeartbeats 4000000 in
set_option maxRecDepth 100000 in
theorem mL2_law_J919 {k : Int32 → zW → Prop} {g23 : Nat → Nat → Int32 → zW → Prop} {a3 : Nat} (X : zCx p s m args meth c cL_law 7 RL (some .boolean)) (hQ : zRetAI p l e R s m args below meth c Q D dA true ad0 al0 cL_law k) (hsc : va_X b L xs s s.heap ∧ b < s.heap.size ∧ ¬ zA ad0 al0 s.heap.size b) (hl0 : l.stackTraces = false) (hTh : zThE (zA ad0 al0 s.heap.size) s s.heap) (htw : ∀ w ∈ zTw2, w.before args s = true) (hg23 : ∀ (cells slots mc ms : Nat) (x4 : Int32) (ad : Nat → Nat) (al : Nat → Prop) (w : zW) (H : Heap) (locs : List Loc) (ls : Array Slot) (ha3 : al a3 ∧ zsh a3 = 21), g23 mc ms x4 w → zExt ad0 al0 ad al → zRm R 145 (cells + mc) (slots + ms) → zSt D dA true ad0 al0 ad al w s H locs → lv_has ls 7 [(0, .ref b), (1, .ref (ad 1)), (2, .ref (ad 200)), (3, .ref (ad a3)), (4, .int x4)] → W p l e R s m args below meth c H locs cells slots Q (F0 m 23 ls [])) {cells slots mc ms : Nat} {x4 : Int32} {ad : Nat → Nat} {al : Nat → Prop} {w : zW} {H : Heap} {locs : List Loc} {ls : Array Slot} (ha3 : al a3 ∧ zsh a3 = 21) (hf : fL_law_J919 L xs a3 k g23 mc ms x4 w) (hX : zExt ad0 al0 ad al) (hr : zRm R 145 (cells + mc) (slots + ms)) (hR : zSt D dA true ad0 al0 ad al w s H locs) (hl : lv_has ls 7 [(0, .ref b), (1, .ref (ad 1)), (2, .ref (ad 200)), (3, .ref (ad a3)), (4, .int x4)]) : W p l e R s m args below meth c H locs cells slots Q (F0 m 919 ls []) := by
  have hx := X.1
  have hb := X.2.1
  have hml := X.2.2.1
  have hown := X.2.2.2.1
  have hts := X.2.2.2.2.1
  unfold fL_law_J919 at hf
  refine lv_aload_n hx hb dL_law_919 rfl (lv_at hl 1 rfl) ?_
  have hw119_1 : al 1 := (zlit hR zf_1)
  have hw119_2 : al 200 := (zlit hR zf_200)
  have hw119_3 : al a3 := ha3.1
  have hv119_1 : al 1 := (zlit hR zf_1)
  obtain ⟨c119, s119, hc119, hs119, hf⟩ := hf
  refine z_callAVI (fr1 := 6) (mc := c119) (ms := s119) (b := 1) (As := []) (rest := []) X (hr.call hc119 hs119 (by decide)) hR zy_X11_open zq_1252 (zlit hR zf_1) (by rw [zs_1]; rfl) rfl (mX11_open  hf) rfl hl (Nat.le_of_ble_eq_true rfl) dL_law_920 rfl (fun r119 w119 H locs ad119 al119 hf hE119 hR => ?_)
  have hX := hX.tr hE119
  have hr := hr.after hc119 hs119
  have ha3 : al119 a3 ∧ zsh a3 = 21 := ⟨(hE119 _ ha3.1).1, ha3.2⟩
  rw [← (hE119 1 hw119_1).2] at hl
  rw [← (hE119 200 hw119_2).2] at hl
  rw [← (hE119 a3 hw119_3).2] at hl
  refine lv_aload_n hx hb dL_law_923 rfl (lv_at hl 2 rfl) ?_
  refine z_callVI (fr1 := 4) (b := 200) (As := []) (rest := [.int r119]) X (hr.none (by decide)) hR zy_X12_open zq_1256 (zlit hR zf_200) (by rw [zs_200]; rfl) rfl (mX12_open  hf) rfl hl (Nat.le_of_ble_eq_true rfl) dL_law_924 rfl (fun r120 w120 H locs hf hR => ?_)
  refine lv_icmp_eq (tgt := 1479) hx hb dL_law_927 (by decide) (fun c121 => ?_) (fun c121 => ?_)
  · replace hf := hf.1 c121
    exact mL2_law_J1479 X hQ hsc hl0 hTh htw hg23 ha3 hf hX hr hR (lv_sub hl [0, 1, 2, 3, 4] rfl)
  · replace hf := hf.2 c121
    refine lv_iconst (v := (0 : Int32)) hx hb dL_law_930 (by decide) ?_
    exact hQ _ _ _ _ _ _ _ _ _ _ hX (by have := hr.2.2.1; omega) (by have := hr.2.2.2; omega) hf hR dL_law_931
set_option maxHeartbeats 4000000 in
set_option maxRecDepth 100000 in
theorem mL2_law_J932 {k : Int32 → zW → Prop} {g23 : Nat → Nat → Int32 → zW → Prop} {a3 : Nat} (X : zCx p s m args meth c cL_law 7 RL (some .boolean)) (hQ : zRetAI p l e R s m args below meth c Q D dA true ad0 al0 cL_law k) (hsc : va_X b L xs s s.heap ∧ b < s.heap.size ∧ ¬ zA ad0 al0 s.heap.size b) (hl0 : l.stackTraces = false) (hTh : zThE (zA ad0 al0 s.heap.size) s s.heap) (htw : ∀ w ∈ zTw2, w.before args s = true) (hg23 : ∀ (cells slots mc ms : Nat) (x4 : Int32) (ad : Nat → Nat) (al : Nat → Prop) (w : zW) (H : Heap) (locs : List Loc) (ls : Array Slot) (ha3 : al a3 ∧ zsh a3 = 21), g23 mc ms x4 w → zExt ad0 al0 ad al → zRm R 145 (cells + mc) (slots + ms) → zSt D dA true ad0 al0 ad al w s H locs → lv_has ls 7 [(0, .ref b), (1, .ref (ad 1)), (2, .ref (ad 200)), (3, .ref (ad a3)), (4, .int x4)] → W p l e R s m args below meth c H locs cells slots Q (F0 m 23 ls [])) {cells slots mc ms : Nat} {x4 : Int32} {ad : Nat → Nat} {al : Nat → Prop} {w : zW} {H : Heap} {locs : List Loc} {ls : Array Slot} (ha3 : al a3 ∧ zsh a3 = 21) (hf : fL_law_J932 L xs a3 k g23 mc ms x4 w) (hX : zExt ad0 al0 ad al) (hr : zRm R 145 (cells + mc) (slots + ms)) (hR : zSt D dA true ad0 al0 ad al w s H locs) (hl : lv_has ls 7 [(0, .ref b), (1, .ref (ad 1)), (2, .ref (ad 200)), (3, .ref (ad a3)), (4, .int x4)]) : W p l e R s m args below meth c H locs cells slots Q (F0 m 932 ls []) := by
  have hx := X.1
  have hb := X.2.1
  have hml := X.2.2.1
  have hown := X.2.2.2.1
  have hts := X.2.2.2.2.1
  unfold fL_law_J932 at hf
  refine lv_aload_n hx hb dL_law_932 rfl (lv_at hl 1 rfl) ?_
  refine lv_aload_n hx hb dL_law_933 rfl (lv_at hl 0 rfl) ?_
  refine lv_iload hx hb dL_law_934 (lv_at hl 4 rfl) ?_
  refine lv_iconst (v := (1 : Int32)) hx hb dL_law_936 (by decide) ?_
  refine lv_iadd hx hb dL_law_937 ?_
  obtain ⟨hb123, hf⟩ := hf
  refine va_sld hx hb hsc.1 hsc.2.1 hsc.2.2 hR.2.2.1 hb123 dL_law_938 ?_
  refine lv_aload_n hx hb dL_law_939 rfl (lv_at hl 0 rfl) ?_
  refine lv_iload hx hb dL_law_940 (lv_at hl 4 rfl) ?_
  refine lv_iconst (v := (2 : Int32)) hx hb dL_law_942 (by decide) ?_
  refine lv_iadd hx hb dL_law_943 ?_
  obtain ⟨hb124, hf⟩ := hf
  refine va_sld hx hb hsc.1 hsc.2.1 hsc.2.2 hR.2.2.1 hb124 dL_law_944 ?_
  have hw125_1 : al 1 := (zlit hR zf_1)
  have hw125_2 : al 200 := (zlit hR zf_200)
  have hw125_3 : al a3 := ha3.1
  have hv125_1 : al 1 := (zlit hR zf_1)
  obtain ⟨c125, s125, hc125, hs125, hf⟩ := hf
  refine z_callAVI (fr1 := 6) (mc := c125) (ms := s125) (b := 1) (As := [.int (xs (x4 + (1 : Int32)).toNatClampNeg), .int (xs (x4 + (2 : Int32)).toNatClampNeg)]) (rest := []) X (hr.call hc125 hs125 (by decide)) hR zy_X11_has zq_1260 (zlit hR zf_1) (by rw [zs_1]; rfl) rfl (mX11_has  hf) rfl hl (Nat.le_of_ble_eq_true rfl) dL_law_945 rfl (fun r125 w125 H locs ad125 al125 hf hE125 hR => ?_)
  have hX := hX.tr hE125
  have hr := hr.after hc125 hs125
  have ha3 : al125 a3 ∧ zsh a3 = 21 := ⟨(hE125 _ ha3.1).1, ha3.2⟩
  rw [← (hE125 1 hw125_1).2] at hl
  rw [← (hE125 200 hw125_2).2] at hl
  rw [← (hE125 a3 hw125_3).2] at hl
  refine lv_aload_n hx hb dL_law_948 rfl (lv_at hl 2 rfl) ?_
  refine lv_aload_n hx hb dL_law_949 rfl (lv_at hl 0 rfl) ?_
  refine lv_iload hx hb dL_law_950 (lv_at hl 4 rfl) ?_
  refine lv_iconst (v := (1 : Int32)) hx hb dL_law_952 (by decide) ?_
  refine lv_iadd hx hb dL_law_953 ?_
  refine va_sld hx hb hsc.1 hsc.2.1 hsc.2.2 hR.2.2.1 hb123 dL_law_954 ?_
  refine lv_aload_n hx hb dL_law_955 rfl (lv_at hl 0 rfl) ?_
  refine lv_iload hx hb dL_law_956 (lv_at hl 4 rfl) ?_
  refine lv_iconst (v := (2 : Int32)) hx hb dL_law_958 (by decide) ?_
  refine lv_iadd hx hb dL_law_959 ?_
  refine va_sld hx hb hsc.1 hsc.2.1 hsc.2.2 hR.2.2.1 hb124 dL_law_960 ?_
  refine z_callVI (fr1 := 4) (b := 200) (As := [.int (xs (x4 + (1 : Int32)).toNatClampNeg), .int (xs (x4 + (2 : Int32)).toNatClampNeg)]) (rest := [.int r125]) X (hr.none (by decide)) hR zy_X12_has zq_1264 (zlit hR zf_200) (by rw [zs_200]; rfl) rfl (mX12_has  hf) rfl hl (Nat.le_of_ble_eq_true rfl) dL_law_961 rfl (fun r126 w126 H locs hf hR => ?_)
  refine lv_icmp_eq (tgt := 1479) hx hb dL_law_964 (by decide) (fun c127 => ?_) (fun c127 => ?_)
  · replace hf := hf.1 c127
    exact mL2_law_J1479 X hQ hsc hl0 hTh htw hg23 ha3 hf hX hr hR (lv_sub hl [0, 1, 2, 3, 4] rfl)
  · replace hf := hf.2 c127
    refine lv_iconst (v := (0 : Int32)) hx hb dL_law_967 (by decide) ?_
    exact hQ _ _ _ _ _ _ _ _ _ _ hX (by have := hr.2.2.1; omega) (by have := hr.2.2.2; omega) hf hR dL_law_968
set_option maxHeartbeats 4000000 in
set_option maxRecDepth 100000 in
theorem mL2_law_J969 {k : Int32 → zW → Prop} {g23 : Nat → Nat → Int32 → zW → Prop} {a3 : Nat} (X : zCx p s m args meth c cL_law 7 RL (some .boolean)) (hQ : zRetAI p l e R s m args below meth c Q D dA true ad0 al0 cL_law k) (hsc : va_X b L xs s s.heap ∧ b < s.heap.size ∧ ¬ zA ad0 al0 s.heap.size b) (hl0 : l.stackTraces = false) (hTh : zThE (zA ad0 al0 s.heap.size) s s.heap) (htw : ∀ w ∈ zTw2, w.before args s = true) (hg23 : ∀ (cells slots mc ms : Nat) (x4 : Int32) (ad : Nat → Nat) (al : Nat → Prop) (w : zW) (H : Heap) (locs : List Loc) (ls : Array Slot) (ha3 : al a3 ∧ zsh a3 = 21), g23 mc ms x4 w → zExt ad0 al0 ad al → zRm R 145 (cells + mc) (slots + ms) → zSt D dA true ad0 al0 ad al w s H locs → lv_has ls 7 [(0, .ref b), (1, .ref (ad 1)), (2, .ref (ad 200)), (3, .ref (ad a3)), (4, .int x4)] → W p l e R s m args below meth c H locs cells slots Q (F0 m 23 ls [])) {cells slots mc ms : Nat} {x4 : Int32} {ad : Nat → Nat} {al : Nat → Prop} {w : zW} {H : Heap} {locs : List Loc} {ls : Array Slot} (ha3 : al a3 ∧ zsh a3 = 21) (hf : fL_law_J969 L xs a3 k g23 mc ms x4 w) (hX : zExt ad0 al0 ad al) (hr : zRm R 145 (cells + mc) (slots + ms)) (hR : zSt D dA true ad0 al0 ad al w s H locs) (hl : lv_has ls 7 [(0, .ref b), (1, .ref (ad 1)), (2, .ref (ad 200)), (3, .ref (ad a3)), (4, .int x4)]) : W p l e R s m args below meth c H locs cells slots Q (F0 m 969 ls []) := by
  have hx := X.1
  have hb := X.2.1
  have hml := X.2.2.1
  have hown := X.2.2.2.1
  have hts := X.2.2.2.2.1
  unfold fL_law_J969 at hf
  refine lv_aload_n hx hb dL_law_969 rfl (lv_at hl 1 rfl) ?_
  have hw129_1 : al 1 := (zlit hR zf_1)
  have hw129_2 : al 200 := (zlit hR zf_200)
  have hw129_3 : al a3 := ha3.1
  have hv129_1 : al 1 := (zlit hR zf_1)
  obtain ⟨c129, s129, hc129, hs129, hf⟩ := hf
  refine z_callAVI (fr1 := 6) (mc := c129) (ms := s129) (b := 1) (As := []) (rest := []) X (hr.call hc129 hs129 (by decide)) hR zy_X11_ask zq_1268 (zlit hR zf_1) (by rw [zs_1]; rfl) rfl (mX11_ask  hf) rfl hl (Nat.le_of_ble_eq_true rfl) dL_law_970 rfl (fun r129 w129 H locs ad129 al129 hf hE129 hR => ?_)
  have hX := hX.tr hE129
  have hr := hr.after hc129 hs129
  have ha3 : al129 a3 ∧ zsh a3 = 21 := ⟨(hE129 _ ha3.1).1, ha3.2⟩
  rw [← (hE129 1 hw129_1).2] at hl
  rw [← (hE129 200 hw129_2).2] at hl
  rw [← (hE129 a3 hw129_3).2] at hl
  refine lv_aload_n hx hb dL_law_973 rfl (lv_at hl 2 rfl) ?_
  refine z_callVI (fr1 := 4) (b := 200) (As := []) (rest := [.int r129]) X (hr.none (by decide)) hR zy_X12_ask zq_1277 (zlit hR zf_200) (by rw [zs_200]; rfl) rfl (mX12_ask  hf) rfl hl (Nat.le_of_ble_eq_true rfl) dL_law_974 rfl (fun r130 w130 H locs hf hR => ?_)
  refine lv_icmp_eq (tgt := 1479) hx hb dL_law_977 (by decide) (fun c131 => ?_) (fun c131 => ?_)
  · replace hf := hf.1 c131
    exact mL2_law_J1479 X hQ hsc hl0 hTh htw hg23 ha3 hf hX hr hR (lv_sub hl [0, 1, 2, 3, 4] rfl)
  · replace hf := hf.2 c131
    refine lv_iconst (v := (0 : Int32)) hx hb dL_law_980 (by decide) ?_
    exact hQ _ _ _ _ _ _ _ _ _ _ hX (by have := hr.2.2.1; omega) (by have := hr.2.2.2; omega) hf hR dL_law_981
set_option maxHeartbeats 4000000 in
set_option maxRecDepth 100000 in
theorem mL2_law_J982 {k : Int32 → zW → Prop} {g23 : Nat → Nat → Int32 → zW → Prop} {a3 : Nat} (X : zCx p s m args meth c cL_law 7 RL (some .boolean)) (hQ : zRetAI p l e R s m args below meth c Q D dA true ad0 al0 cL_law k) (hsc : va_X b L xs s s.heap ∧ b < s.heap.size ∧ ¬ zA ad0 al0 s.heap.size b) (hl0 : l.stackTraces = false) (hTh : zThE (zA ad0 al0 s.heap.size) s s.heap) (htw : ∀ w ∈ zTw2, w.before args s = true) (hg23 : ∀ (cells slots mc ms : Nat) (x4 : Int32) (ad : Nat → Nat) (al : Nat → Prop) (w : zW) (H : Heap) (locs : List Loc) (ls : Array Slot) (ha3 : al a3 ∧ zsh a3 = 21), g23 mc ms x4 w → zExt ad0 al0 ad al → zRm R 145 (cells + mc) (slots + ms) → zSt D dA true ad0 al0 ad al w s H locs → lv_has ls 7 [(0, .ref b), (1, .ref (ad 1)), (2, .ref (ad 200)), (3, .ref (ad a3)), (4, .int x4)] → W p l e R s m args below meth c H locs cells slots Q (F0 m 23 ls [])) {cells slots mc ms : Nat} {x4 : Int32} {ad : Nat → Nat} {al : Nat → Prop} {w : zW} {H : Heap} {locs : List Loc} {ls : Array Slot} (ha3 : al a3 ∧ zsh a3 = 21) (hf : fL_law_J982 L xs a3 k g23 mc ms x4 w) (hX : zExt ad0 al0 ad al) (hr : zRm R 145 (cells + mc) (slots + ms)) (hR : zSt D dA true ad0 al0 ad al w s H locs) (hl : lv_has ls 7 [(0, .ref b), (1, .ref (ad 1)), (2, .ref (ad 200)), (3, .ref (ad a3)), (4, .int x4)]) : W p l e R s m args below meth c H locs cells slots Q (F0 m 982 ls []) := by
  have hx := X.1
  have hb := X.2.1
  have hml := X.2.2.1
  have hown := X.2.2.2.1
  have hts := X.2.2.2.2.1
  unfold fL_law_J982 at hf
  refine lv_aload_n hx hb dL_law_982 rfl (lv_at hl 1 rfl) ?_
  have hw133_1 : al 1 := (zlit hR zf_1)
  have hw133_2 : al 200 := (zlit hR zf_200)
  have hw133_3 : al a3 := ha3.1
  have hv133_1 : al 1 := (zlit hR zf_1)
  obtain ⟨c133, s133, hc133, hs133, hf⟩ := hf
  refine z_callAVI (fr1 := 6) (mc := c133) (ms := s133) (b := 1) (As := []) (rest := []) X (hr.call hc133 hs133 (by decide)) hR zy_X11_learn zq_1281 (zlit hR zf_1) (by rw [zs_1]; rfl) rfl (mX11_learn  hf) rfl hl (Nat.le_of_ble_eq_true rfl) dL_law_983 rfl (fun r133 w133 H locs ad133 al133 hf hE133 hR => ?_)
  have hX := hX.tr hE133
  have hr := hr.after hc133 hs133
  have ha3 : al133 a3 ∧ zsh a3 = 21 := ⟨(hE133 _ ha3.1).1, ha3.2⟩
  rw [← (hE133 1 hw133_1).2] at hl
  rw [← (hE133 200 hw133_2).2] at hl
  rw [← (hE133 a3 hw133_3).2] at hl
  refine lv_aload_n hx hb dL_law_986 rfl (lv_at hl 2 rfl) ?_
  refine z_callVI (fr1 := 4) (b := 200) (As := []) (rest := [.int r133]) X (hr.none (by decide)) hR zy_X12_learn zq_1285 (zlit hR zf_200) (by rw [zs_200]; rfl) rfl (mX12_learn  hf) rfl hl (Nat.le_of_ble_eq_true rfl) dL_law_987 rfl (fun r134 w134 H locs hf hR => ?_)
  refine lv_icmp_eq (tgt := 1479) hx hb dL_law_990 (by decide) (fun c135 => ?_) (fun c135 => ?_)
  · replace hf := hf.1 c135
    exact mL2_law_J1479 X hQ hsc hl0 hTh htw hg23 ha3 hf hX hr hR (lv_sub hl [0, 1, 2, 3, 4] rfl)
  · replace hf := hf.2 c135
    refine lv_iconst (v := (0 : Int32)) hx hb dL_law_993 (by decide) ?_
    exact hQ _ _ _ _ _ _ _ _ _ _ hX (by have := hr.2.2.1; omega) (by have := hr.2.2.2; omega) hf hR dL_law_994
set_option maxHeartbeats 4000000 in
set_option maxRecDepth 100000 in
theorem mL2_law_J995 {k : Int32 → zW → Prop} {g23 : Nat → Nat → Int32 → zW → Prop} {a3 : Nat} (X : zCx p s m args meth c cL_law 7 RL (some .boolean)) (hQ : zRetAI p l e R s m args below meth c Q D dA true ad0 al0 cL_law k) (hsc : va_X b L xs s s.heap ∧ b < s.heap.size ∧ ¬ zA ad0 al0 s.heap.size b) (hl0 : l.stackTraces = false) (hTh : zThE (zA ad0 al0 s.heap.size) s s.heap) (htw : ∀ w ∈ zTw2, w.before args s = true) (hg23 : ∀ (cells slots mc ms : Nat) (x4 : Int32) (ad : Nat → Nat) (al : Nat → Prop) (w : zW) (H : Heap) (locs : List Loc) (ls : Array Slot) (ha3 : al a3 ∧ zsh a3 = 21), g23 mc ms x4 w → zExt ad0 al0 ad al → zRm R 145 (cells + mc) (slots + ms) → zSt D dA true ad0 al0 ad al w s H locs → lv_has ls 7 [(0, .ref b), (1, .ref (ad 1)), (2, .ref (ad 200)), (3, .ref (ad a3)), (4, .int x4)] → W p l e R s m args below meth c H locs cells slots Q (F0 m 23 ls [])) {cells slots mc ms : Nat} {x4 : Int32} {ad : Nat → Nat} {al : Nat → Prop} {w : zW} {H : Heap} {locs : List Loc} {ls : Array Slot} (ha3 : al a3 ∧ zsh a3 = 21) (hf : fL_law_J995 L xs a3 k g23 mc ms x4 w) (hX : zExt ad0 al0 ad al) (hr : zRm R 145 (cells + mc) (slots + ms)) (hR : zSt D dA true ad0 al0 ad al w s H locs) (hl : lv_has ls 7 [(0, .ref b), (1, .ref (ad 1)), (2, .ref (ad 200)), (3, .ref (ad a3)), (4, .int x4)]) : W p l e R s m args below meth c H locs cells slots Q (F0 m 995 ls []) := by
  have hx := X.1
  have hb := X.2.1
  have hml := X.2.2.1
  have hown := X.2.2.2.1
  have hts := X.2.2.2.2.1
  unfold fL_law_J995 at hf
  refine lv_aload_n hx hb dL_law_995 rfl (lv_at hl 1 rfl) ?_
  refine z_callVI (fr1 := 3) (b := 1) (As := []) (rest := []) X (hr.none (by decide)) hR zy_X11_bad zq_1289 (zlit hR zf_1) (by rw [zs_1]; rfl) rfl (mX11_bad  hf) rfl hl (Nat.le_of_ble_eq_true rfl) dL_law_996 rfl (fun r137 w137 H locs hf hR => ?_)
  refine lv_aload_n hx hb dL_law_999 rfl (lv_at hl 2 rfl) ?_
  refine z_callVI (fr1 := 3) (b := 200) (As := []) (rest := [.int r137]) X (hr.none (by decide)) hR zy_X12_bad zq_1312 (zlit hR zf_200) (by rw [zs_200]; rfl) rfl (mX12_bad  hf) rfl hl (Nat.le_of_ble_eq_true rfl) dL_law_1000 rfl (fun r138 w138 H locs hf hR => ?_)
  refine lv_icmp_eq (tgt := 1479) hx hb dL_law_1003 (by decide) (fun c139 => ?_) (fun c139 => ?_)
  · replace hf := hf.1 c139
    exact mL2_law_J1479 X hQ hsc hl0 hTh htw hg23 ha3 hf hX hr hR (lv_sub hl [0, 1, 2, 3, 4] rfl)
  · replace hf := hf.2 c139
    refine lv_iconst (v := (0 : Int32)) hx hb dL_law_1006 (by decide) ?_
    exact hQ _ _ _ _ _ _ _ _ _ _ hX (by have := hr.2.2.1; omega) (by have := hr.2.2.2; omega) hf hR dL_law_1007
set_option maxHeartbeats 4000000 in
set_option maxRecDepth 100000 in
theorem mL2_law_J1008 {k : Int32 → zW → Prop} {g23 : Nat → Nat → Int32 → zW → Prop} {a3 : Nat} (X : zCx p s m args meth c cL_law 7 RL (some .boolean)) (hQ : zRetAI p l e R s m args below meth c Q D dA true ad0 al0 cL_law k) (hsc : va_X b L xs s s.heap ∧ b < s.heap.size ∧ ¬ zA ad0 al0 s.heap.size b) (hl0 : l.stackTraces = false) (hTh : zThE (zA ad0 al0 s.heap.size) s s.heap) (htw : ∀ w ∈ zTw2, w.before args s = true) (hg23 : ∀ (cells slots mc ms : Nat) (x4 : Int32) (ad : Nat → Nat) (al : Nat → Prop) (w : zW) (H : Heap) (locs : List Loc) (ls : Array Slot) (ha3 : al a3 ∧ zsh a3 = 21), g23 mc ms x4 w → zExt ad0 al0 ad al → zRm R 145 (cells + mc) (slots + ms) → zSt D dA true ad0 al0 ad al w s H locs → lv_has ls 7 [(0, .ref b), (1, .ref (ad 1)), (2, .ref (ad 200)), (3, .ref (ad a3)), (4, .int x4)] → W p l e R s m args below meth c H locs cells slots Q (F0 m 23 ls [])) {cells slots mc ms : Nat} {x4 : Int32} {ad : Nat → Nat} {al : Nat → Prop} {w : zW} {H : Heap} {locs : List Loc} {ls : Array Slot} (ha3 : al a3 ∧ zsh a3 = 21) (hf : fL_law_J1008 L xs a3 k g23 mc ms x4 w) (hX : zExt ad0 al0 ad al) (hr : zRm R 145 (cells + mc) (slots + ms)) (hR : zSt D dA true ad0 al0 ad al w s H locs) (hl : lv_has ls 7 [(0, .ref b), (1, .ref (ad 1)), (2, .ref (ad 200)), (3, .ref (ad a3)), (4, .int x4)]) : W p l e R s m args below meth c H locs cells slots Q (F0 m 1008 ls []) := by
  have hx := X.1
  have hb := X.2.1
  have hml := X.2.2.1
  have hown := X.2.2.2.1
  have hts := X.2.2.2.2.1
  unfold fL_law_J1008 at hf
  refine lv_aload_n hx hb dL_law_1008 rfl (lv_at hl 1 rfl) ?_
  refine z_callVI (fr1 := 4) (b := 1) (As := []) (rest := []) X (hr.none (by decide)) hR zy_X11_off zq_1324 (zlit hR zf_1) (by rw [zs_1]; rfl) rfl (mX11_off  hf) rfl hl (Nat.le_of_ble_eq_true rfl) dL_law_1009 rfl (fun r141 w141 H locs hf hR => ?_)
  refine lv_aload_n hx hb dL_law_1012 rfl (lv_at hl 2 rfl) ?_
  refine z_callVI (fr1 := 3) (b := 200) (As := []) (rest := [.int r141]) X (hr.none (by decide)) hR zy_X12_off zq_1329 (zlit hR zf_200) (by rw [zs_200]; rfl) rfl (mX12_off  hf) rfl hl (Nat.le_of_ble_eq_true rfl) dL_law_1013 rfl (fun r142 w142 H locs hf hR => ?_)
  refine lv_icmp_eq (tgt := 1479) hx hb dL_law_1016 (by decide) (fun c143 => ?_) (fun c143 => ?_)
  · replace hf := hf.1 c143
    exact mL2_law_J1479 X hQ hsc hl0 hTh htw hg23 ha3 hf hX hr hR (lv_sub hl [0, 1, 2, 3, 4] rfl)
  · replace hf := hf.2 c143
    refine lv_iconst (v := (0 : Int32)) hx hb dL_law_1019 (by decide) ?_
    exact hQ _ _ _ _ _ _ _ _ _ _ hX (by have := hr.2.2.1; omega) (by have := hr.2.2.2; omega) hf hR dL_law_1020
set_option maxHeartbeats 4000000 in
set_option maxRecDepth 100000 in
theorem mL2_law_J1021 {k : Int32 → zW → Prop} {g23 : Nat → Nat → Int32 → zW → Prop} {a3 : Nat} (X : zCx p s m args meth c cL_law 7 RL (some .boolean)) (hQ : zRetAI p l e R s m args below meth c Q D dA true ad0 al0 cL_law k) (hsc : va_X b L xs s s.heap ∧ b < s.heap.size ∧ ¬ zA ad0 al0 s.heap.size b) (hl0 : l.stackTraces = false) (hTh : zThE (zA ad0 al0 s.heap.size) s s.heap) (htw : ∀ w ∈ zTw2, w.before args s = true) (hg23 : ∀ (cells slots mc ms : Nat) (x4 : Int32) (ad : Nat → Nat) (al : Nat → Prop) (w : zW) (H : Heap) (locs : List Loc) (ls : Array Slot) (ha3 : al a3 ∧ zsh a3 = 21), g23 mc ms x4 w → zExt ad0 al0 ad al → zRm R 145 (cells + mc) (slots + ms) → zSt D dA true ad0 al0 ad al w s H locs → lv_has ls 7 [(0, .ref b), (1, .ref (ad 1)), (2, .ref (ad 200)), (3, .ref (ad a3)), (4, .int x4)] → W p l e R s m args below meth c H locs cells slots Q (F0 m 23 ls [])) {cells slots mc ms : Nat} {x4 : Int32} {ad : Nat → Nat} {al : Nat → Prop} {w : zW} {H : Heap} {locs : List Loc} {ls : Array Slot} (ha3 : al a3 ∧ zsh a3 = 21) (hf : fL_law_J1021 L xs a3 k g23 mc ms x4 w) (hX : zExt ad0 al0 ad al) (hr : zRm R 145 (cells + mc) (slots + ms)) (hR : zSt D dA true ad0 al0 ad al w s H locs) (hl : lv_has ls 7 [(0, .ref b), (1, .ref (ad 1)), (2, .ref (ad 200)), (3, .ref (ad a3)), (4, .int x4)]) : W p l e R s m args below meth c H locs cells slots Q (F0 m 1021 ls []) := by
  have hx := X.1
  have hb := X.2.1
  have hml := X.2.2.1
  have hown := X.2.2.2.1
  have hts := X.2.2.2.2.1
  unfold fL_law_J1021 at hf
  refine lv_aload_n hx hb dL_law_1021 rfl (lv_at hl 1 rfl) ?_
  refine lv_aload_n hx hb dL_law_1022 rfl (lv_at hl 0 rfl) ?_
  refine lv_iload hx hb dL_law_1023 (lv_at hl 4 rfl) ?_
  refine lv_iconst (v := (1 : Int32)) hx hb dL_law_1025 (by decide) ?_
  refine lv_iadd hx hb dL_law_1026 ?_
  obtain ⟨hb145, hf⟩ := hf
  refine va_sld hx hb hsc.1 hsc.2.1 hsc.2.2 hR.2.2.1 hb145 dL_law_1027 ?_
  refine z_callVI (fr1 := 3) (b := 1) (As := [.int (xs (x4 + (1 : Int32)).toNatClampNeg)]) (rest := []) X (hr.none (by decide)) hR zy_X11_behind zq_1333 (zlit hR zf_1) (by rw [zs_1]; rfl) rfl (mX11_behind  hf) rfl hl (Nat.le_of_ble_eq_true rfl) dL_law_1028 rfl (fun r146 w146 H locs hf hR => ?_)
  refine lv_aload_n hx hb dL_law_1031 rfl (lv_at hl 2 rfl) ?_
  refine lv_aload_n hx hb dL_law_1032 rfl (lv_at hl 0 rfl) ?_
  refine lv_iload hx hb dL_law_1033 (lv_at hl 4 rfl) ?_
  refine lv_iconst (v := (1 : Int32)) hx hb dL_law_1035 (by decide) ?_
  refine lv_iadd hx hb dL_law_1036 ?_
  refine va_sld hx hb hsc.1 hsc.2.1 hsc.2.2 hR.2.2.1 hb145 dL_law_1037 ?_
  refine z_callVI (fr1 := 3) (b := 200) (As := [.int (xs (x4 + (1 : Int32)).toNatClampNeg)]) (rest := [.int r146]) X (hr.none (by decide)) hR zy_X12_behind zq_1337 (zlit hR zf_200) (by rw [zs_200]; rfl) rfl (mX12_behind  hf) rfl hl (Nat.le_of_ble_eq_true rfl) dL_law_1038 rfl (fun r147 w147 H locs hf hR => ?_)
  refine lv_icmp_eq (tgt := 1479) hx hb dL_law_1041 (by decide) (fun c148 => ?_) (fun c148 => ?_)
  · replace hf := hf.1 c148
    exact mL2_law_J1479 X hQ hsc hl0 hTh htw hg23 ha3 hf hX hr hR (lv_sub hl [0, 1, 2, 3, 4] rfl)
  · replace hf := hf.2 c148
    refine lv_iconst (v := (0 : Int32)) hx hb dL_law_1044 (by decide) ?_
    exact hQ _ _ _ _ _ _ _ _ _ _ hX (by have := hr.2.2.1; omega) (by have := hr.2.2.2; omega) hf hR dL_law_1045
set_option maxHeartbeats 4000000 in
set_option maxRecDepth 100000 in
theorem mL2_law_J1046 {k : Int32 → zW → Prop} {g23 : Nat → Nat → Int32 → zW → Prop} {a3 : Nat} (X : zCx p s m args meth c cL_law 7 RL (some .boolean)) (hQ : zRetAI p l e R s m args below meth c Q D dA true ad0 al0 cL_law k) (hsc : va_X b L xs s s.heap ∧ b < s.heap.size ∧ ¬ zA ad0 al0 s.heap.size b) (hl0 : l.stackTraces = false) (hTh : zThE (zA ad0 al0 s.heap.size) s s.heap) (htw : ∀ w ∈ zTw2, w.before args s = true) (hg23 : ∀ (cells slots mc ms : Nat) (x4 : Int32) (ad : Nat → Nat) (al : Nat → Prop) (w : zW) (H : Heap) (locs : List Loc) (ls : Array Slot) (ha3 : al a3 ∧ zsh a3 = 21), g23 mc ms x4 w → zExt ad0 al0 ad al → zRm R 145 (cells + mc) (slots + ms) → zSt D dA true ad0 al0 ad al w s H locs → lv_has ls 7 [(0, .ref b), (1, .ref (ad 1)), (2, .ref (ad 200)), (3, .ref (ad a3)), (4, .int x4)] → W p l e R s m args below meth c H locs cells slots Q (F0 m 23 ls [])) {cells slots mc ms : Nat} {x4 : Int32} {ad : Nat → Nat} {al : Nat → Prop} {w : zW} {H : Heap} {locs : List Loc} {ls : Array Slot} (ha3 : al a3 ∧ zsh a3 = 21) (hf : fL_law_J1046 L xs a3 k g23 mc ms x4 w) (hX : zExt ad0 al0 ad al) (hr : zRm R 145 (cells + mc) (slots + ms)) (hR : zSt D dA true ad0 al0 ad al w s H locs) (hl : lv_has ls 7 [(0, .ref b), (1, .ref (ad 1)), (2, .ref (ad 200)), (3, .ref (ad a3)), (4, .int x4)]) : W p l e R s m args below meth c H locs cells slots Q (F0 m 1046 ls []) := by
  have hx := X.1
  have hb := X.2.1
  have hml := X.2.2.1
  have hown := X.2.2.2.1
  have hts := X.2.2.2.2.1
  unfold fL_law_J1046 at hf
  refine lv_aload_n hx hb dL_law_1046 rfl (lv_at hl 1 rfl) ?_
  have hw150_1 : al 1 := (zlit hR zf_1)
  have hw150_2 : al 200 := (zlit hR zf_200)
  have hw150_3 : al a3 := ha3.1
  have hv150_1 : al 1 := (zlit hR zf_1)
  obtain ⟨c150, s150, hc150, hs150, hf⟩ := hf
  refine z_callAVI (fr1 := 5) (mc := c150) (ms := s150) (b := 1) (As := []) (rest := []) X (hr.call hc150 hs150 (by decide)) hR zy_X11_twins zq_1341 (zlit hR zf_1) (by rw [zs_1]; rfl) rfl (mX11_twins  hf) rfl hl (Nat.le_of_ble_eq_true rfl) dL_law_1047 rfl (fun r150 w150 H locs ad150 al150 hf hE150 hR => ?_)
  have hX := hX.tr hE150
  have hr := hr.after hc150 hs150
  have ha3 : al150 a3 ∧ zsh a3 = 21 := ⟨(hE150 _ ha3.1).1, ha3.2⟩
  rw [← (hE150 1 hw150_1).2] at hl
  rw [← (hE150 200 hw150_2).2] at hl
  rw [← (hE150 a3 hw150_3).2] at hl
  refine lv_aload_n hx hb dL_law_1050 rfl (lv_at hl 2 rfl) ?_
  refine z_callVI (fr1 := 4) (b := 200) (As := []) (rest := [.int r150]) X (hr.none (by decide)) hR zy_X12_twins zq_1349 (zlit hR zf_200) (by rw [zs_200]; rfl) rfl (mX12_twins  hf) rfl hl (Nat.le_of_ble_eq_true rfl) dL_law_1051 rfl (fun r151 w151 H locs hf hR => ?_)
  refine lv_icmp_eq (tgt := 1479) hx hb dL_law_1054 (by decide) (fun c152 => ?_) (fun c152 => ?_)
  · replace hf := hf.1 c152
    exact mL2_law_J1479 X hQ hsc hl0 hTh htw hg23 ha3 hf hX hr hR (lv_sub hl [0, 1, 2, 3, 4] rfl)
  · replace hf := hf.2 c152
    refine lv_iconst (v := (0 : Int32)) hx hb dL_law_1057 (by decide) ?_
    exact hQ _ _ _ _ _ _ _ _ _ _ hX (by have := hr.2.2.1; omega) (by have := hr.2.2.2; omega) hf hR dL_law_1058
set_option maxHeartbeats 4000000 in
set_option maxRecDepth 100000 in
theorem mL2_law_J1059 {k : Int32 → zW → Prop} {g23 : Nat → Nat → Int32 → zW → Prop} {a3 : Nat} (X : zCx p s m args meth c cL_law 7 RL (some .boolean)) (hQ : zRetAI p l e R s m args below meth c Q D dA true ad0 al0 cL_law k) (hsc : va_X b L xs s s.heap ∧ b < s.heap.size ∧ ¬ zA ad0 al0 s.heap.size b) (hl0 : l.stackTraces = false) (hTh : zThE (zA ad0 al0 s.heap.size) s s.heap) (htw : ∀ w ∈ zTw2, w.before args s = true) (hg23 : ∀ (cells slots mc ms : Nat) (x4 : Int32) (ad : Nat → Nat) (al : Nat → Prop) (w : zW) (H : Heap) (locs : List Loc) (ls : Array Slot) (ha3 : al a3 ∧ zsh a3 = 21), g23 mc ms x4 w → zExt ad0 al0 ad al → zRm R 145 (cells + mc) (slots + ms) → zSt D dA true ad0 al0 ad al w s H locs → lv_has ls 7 [(0, .ref b), (1, .ref (ad 1)), (2, .ref (ad 200)), (3, .ref (ad a3)), (4, .int x4)] → W p l e R s m args below meth c H locs cells slots Q (F0 m 23 ls [])) {cells slots mc ms : Nat} {x4 : Int32} {ad : Nat → Nat} {al : Nat → Prop} {w : zW} {H : Heap} {locs : List Loc} {ls : Array Slot} (ha3 : al a3 ∧ zsh a3 = 21) (hf : fL_law_J1059 L xs a3 k g23 mc ms x4 w) (hX : zExt ad0 al0 ad al) (hr : zRm R 145 (cells + mc) (slots + ms)) (hR : zSt D dA true ad0 al0 ad al w s H locs) (hl : lv_has ls 7 [(0, .ref b), (1, .ref (ad 1)), (2, .ref (ad 200)), (3, .ref (ad a3)), (4, .int x4)]) : W p l e R s m args below meth c H locs cells slots Q (F0 m 1059 ls []) := by
  have hx := X.1
  have hb := X.2.1
  have hml := X.2.2.1
  have hown := X.2.2.2.1
  have hts := X.2.2.2.2.1
  unfold fL_law_J1059 at hf
  refine lv_aload_n hx hb dL_law_1059 rfl (lv_at hl 1 rfl) ?_
  refine z_callVI (fr1 := 0) (b := 1) (As := []) (rest := []) X (hr.none (by decide)) hR zy_X11_idle zq_1353 (zlit hR zf_1) (by rw [zs_1]; rfl) rfl (mX11_idle  hf) rfl hl (Nat.le_of_ble_eq_true rfl) dL_law_1060 rfl (fun r154 w154 H locs hf hR => ?_)
  refine lv_aload_n hx hb dL_law_1063 rfl (lv_at hl 2 rfl) ?_
  refine z_callVI (fr1 := 2) (b := 200) (As := []) (rest := [.int r154]) X (hr.none (by decide)) hR zy_X12_idle zq_1357 (zlit hR zf_200) (by rw [zs_200]; rfl) rfl (mX12_idle  hf) rfl hl (Nat.le_of_ble_eq_true rfl) dL_law_1064 rfl (fun r155 w155 H locs hf hR => ?_)
  refine lv_icmp_eq (tgt := 1479) hx hb dL_law_1067 (by decide) (fun c156 => ?_) (fun c156 => ?_)
  · replace hf := hf.1 c156
    exact mL2_law_J1479 X hQ hsc hl0 hTh htw hg23 ha3 hf hX hr hR (lv_sub hl [0, 1, 2, 3, 4] rfl)
  · replace hf := hf.2 c156
    refine lv_iconst (v := (0 : Int32)) hx hb dL_law_1070 (by decide) ?_
    exact hQ _ _ _ _ _ _ _ _ _ _ hX (by have := hr.2.2.1; omega) (by have := hr.2.2.2; omega) hf hR dL_law_1071
end ZM

