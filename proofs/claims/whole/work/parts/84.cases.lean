set_option maxHeartbeats 2000000 in
set_option maxRecDepth 100000 in
theorem lw_k0 {p : Program} {l : Launch} {e : Env} {s : State} {m : MethodId} {args : Array Value} {below : List Frame} {meth : Method} {c0 : Code} {Q : State → Prop} {ad : Nat → Nat} {ca : Nat → ClassId} {dC : Nat → ClassId} {dI : Nat → Nat → Nat} {H : Heap} {locs : List Loc} {cells slots b L i : Nat} {xs : Nat → Int32} {ls : Array Slot} {z : Int32} {σ : QS} (X : lC p s m args c0 ad ca dC dI) (hX : va_X b L xs s s.heap) (hbl : b < s.heap.size) (hL : L ≤ 3072) (hcs : cells ≤ 600000 ∧ slots ≤ 7302250) (hl : lH ls b ad z) (hz : z = nI i) (hi : i + 6 ≤ L) (hI : INV σ) (hF : FCh σ) (hP : va_P (dC, dI) q_cl (q_ws ad ca σ) H) (hS : va_S (lA s) s.heap H locs) (back : ∀ (σ2 : QS) (H1 : Heap) (locs1 : List Loc), INV σ2 → FCh σ2 → va_P (dC, dI) q_cl (q_ws ad ca σ2) H1 → va_S (lA s) s.heap H1 locs1 → W p l e room_1 s m args below meth c0 H1 locs1 cells slots Q (F0 m 1155 ls [])) : W p l e room_1 s m args below meth c0 H locs cells slots Q (F0 m 172 ls []) := by
  have hx := X.1
  have hb := X.2.1
  obtain ⟨r, hsim⟩ := SimI.fc ((sim_own σ (xs (i + 1)) (xs (i + 2)) hI.1).toI hI) hF
  refine lv_aload_n hx hb dL_law_172 rfl (lv_at hl 2 rfl) ?_
  refine lw_arg (k := 1) hx hb hX hbl hS hz hi hL (by decide) (by decide) (lv_at hl 1 rfl) (lv_at hl 0 rfl) dL_law_173 dL_law_174 dL_law_175 dL_law_176 dL_law_177 ?_
  refine lw_arg (k := 2) hx hb hX hbl hS hz hi hL (by decide) (by decide) (lv_at hl 1 rfl) (lv_at hl 0 rfl) dL_law_178 dL_law_179 dL_law_180 dL_law_181 dL_law_182 ?_
  refine lw_go (mi := 71) (c := 0) (As := [(xs (i + 1)), (xs (i + 2))]) (rest := []) X hl.1 rfl (by decide +kernel) (by decide +kernel) lw_m13 (by decide +kernel) (by decide +kernel) rfl rfl hsim (Nat.le_of_ble_eq_true rfl) hcs hP hS dL_law_183 (fun y1 σ1 H locs hR hP hS => ?_)
  obtain ⟨e1, hev2⟩ := hR
  refine lv_aload_n hx hb dL_law_186 rfl (lv_at hl 3 rfl) ?_
  refine lw_arg (k := 1) hx hb hX hbl hS hz hi hL (by decide) (by decide) (lv_at hl 1 rfl) (lv_at hl 0 rfl) dL_law_187 dL_law_188 dL_law_189 dL_law_190 dL_law_191 ?_
  refine lw_arg (k := 2) hx hb hX hbl hS hz hi hL (by decide) (by decide) (lv_at hl 1 rfl) (lv_at hl 0 rfl) dL_law_192 dL_law_193 dL_law_194 dL_law_195 dL_law_196 ?_
  refine lw_go (mi := 116) (c := 69) (As := [(xs (i + 1)), (xs (i + 2))]) (rest := [.int y1]) X hl.1 rfl (by decide +kernel) (by decide +kernel) lw_m17 (by decide +kernel) (by decide +kernel) rfl rfl hev2 (Nat.le_of_ble_eq_true rfl) hcs hP hS dL_law_197 (fun y2 σ2 H locs hR2 hP hS => ?_)
  obtain ⟨e2, hI2, hF2⟩ := hR2
  refine lv_icmp_eq (tgt := 1155) hx hb dL_law_200 (by decide) (fun _ => back σ2 H locs hI2 hF2 hP hS) (fun q => absurd (e1.trans e2.symm) q)
set_option maxHeartbeats 2000000 in
set_option maxRecDepth 100000 in
theorem lw_k1 {p : Program} {l : Launch} {e : Env} {s : State} {m : MethodId} {args : Array Value} {below : List Frame} {meth : Method} {c0 : Code} {Q : State → Prop} {ad : Nat → Nat} {ca : Nat → ClassId} {dC : Nat → ClassId} {dI : Nat → Nat → Nat} {H : Heap} {locs : List Loc} {cells slots b L i : Nat} {xs : Nat → Int32} {ls : Array Slot} {z : Int32} {σ : QS} (X : lC p s m args c0 ad ca dC dI) (hX : va_X b L xs s s.heap) (hbl : b < s.heap.size) (hL : L ≤ 3072) (hcs : cells ≤ 600000 ∧ slots ≤ 7302250) (hl : lH ls b ad z) (hz : z = nI i) (hi : i + 6 ≤ L) (hI : INV σ) (hF : FCh σ) (hP : va_P (dC, dI) q_cl (q_ws ad ca σ) H) (hS : va_S (lA s) s.heap H locs) (back : ∀ (σ2 : QS) (H1 : Heap) (locs1 : List Loc), INV σ2 → FCh σ2 → va_P (dC, dI) q_cl (q_ws ad ca σ2) H1 → va_S (lA s) s.heap H1 locs1 → W p l e room_1 s m args below meth c0 H1 locs1 cells slots Q (F0 m 1155 ls [])) : W p l e room_1 s m args below meth c0 H locs cells slots Q (F0 m 205 ls []) := by
  have hx := X.1
  have hb := X.2.1
  obtain ⟨r, hsim⟩ := SimI.fc ((sim_room σ (xs (i + 1)) (xs (i + 2)) (xs (i + 3)) (xs (i + 4)) hI.1).toI hI) hF
  refine lv_aload_n hx hb dL_law_205 rfl (lv_at hl 2 rfl) ?_
  refine lw_arg (k := 1) hx hb hX hbl hS hz hi hL (by decide) (by decide) (lv_at hl 1 rfl) (lv_at hl 0 rfl) dL_law_206 dL_law_207 dL_law_208 dL_law_209 dL_law_210 ?_
  refine lw_arg (k := 2) hx hb hX hbl hS hz hi hL (by decide) (by decide) (lv_at hl 1 rfl) (lv_at hl 0 rfl) dL_law_211 dL_law_212 dL_law_213 dL_law_214 dL_law_215 ?_
  refine lw_arg (k := 3) hx hb hX hbl hS hz hi hL (by decide) (by decide) (lv_at hl 1 rfl) (lv_at hl 0 rfl) dL_law_216 dL_law_217 dL_law_218 dL_law_219 dL_law_220 ?_
  refine lw_arg (k := 4) hx hb hX hbl hS hz hi hL (by decide) (by decide) (lv_at hl 1 rfl) (lv_at hl 0 rfl) dL_law_221 dL_law_222 dL_law_223 dL_law_224 dL_law_225 ?_
  refine lw_go (mi := 72) (c := 0) (As := [(xs (i + 1)), (xs (i + 2)), (xs (i + 3)), (xs (i + 4))]) (rest := []) X hl.1 rfl (by decide +kernel) (by decide +kernel) lw_m18 (by decide +kernel) (by decide +kernel) rfl rfl hsim (Nat.le_of_ble_eq_true rfl) hcs hP hS dL_law_226 (fun y1 σ1 H locs hR hP hS => ?_)
  obtain ⟨e1, hev2⟩ := hR
  refine lv_aload_n hx hb dL_law_229 rfl (lv_at hl 3 rfl) ?_
  refine lw_arg (k := 1) hx hb hX hbl hS hz hi hL (by decide) (by decide) (lv_at hl 1 rfl) (lv_at hl 0 rfl) dL_law_230 dL_law_231 dL_law_232 dL_law_233 dL_law_234 ?_
  refine lw_arg (k := 2) hx hb hX hbl hS hz hi hL (by decide) (by decide) (lv_at hl 1 rfl) (lv_at hl 0 rfl) dL_law_235 dL_law_236 dL_law_237 dL_law_238 dL_law_239 ?_
  refine lw_arg (k := 3) hx hb hX hbl hS hz hi hL (by decide) (by decide) (lv_at hl 1 rfl) (lv_at hl 0 rfl) dL_law_240 dL_law_241 dL_law_242 dL_law_243 dL_law_244 ?_
  refine lw_arg (k := 4) hx hb hX hbl hS hz hi hL (by decide) (by decide) (lv_at hl 1 rfl) (lv_at hl 0 rfl) dL_law_245 dL_law_246 dL_law_247 dL_law_248 dL_law_249 ?_
  refine lw_go (mi := 117) (c := 69) (As := [(xs (i + 1)), (xs (i + 2)), (xs (i + 3)), (xs (i + 4))]) (rest := [.int y1]) X hl.1 rfl (by decide +kernel) (by decide +kernel) lw_m22 (by decide +kernel) (by decide +kernel) rfl rfl hev2 (Nat.le_of_ble_eq_true rfl) hcs hP hS dL_law_250 (fun y2 σ2 H locs hR2 hP hS => ?_)
  obtain ⟨e2, hI2, hF2⟩ := hR2
  refine lv_icmp_eq (tgt := 1155) hx hb dL_law_253 (by decide) (fun _ => back σ2 H locs hI2 hF2 hP hS) (fun q => absurd (e1.trans e2.symm) q)
set_option maxHeartbeats 2000000 in
set_option maxRecDepth 100000 in
theorem lw_k2 {p : Program} {l : Launch} {e : Env} {s : State} {m : MethodId} {args : Array Value} {below : List Frame} {meth : Method} {c0 : Code} {Q : State → Prop} {ad : Nat → Nat} {ca : Nat → ClassId} {dC : Nat → ClassId} {dI : Nat → Nat → Nat} {H : Heap} {locs : List Loc} {cells slots b L i : Nat} {xs : Nat → Int32} {ls : Array Slot} {z : Int32} {σ : QS} (X : lC p s m args c0 ad ca dC dI) (hX : va_X b L xs s s.heap) (hbl : b < s.heap.size) (hL : L ≤ 3072) (hcs : cells ≤ 600000 ∧ slots ≤ 7302250) (hl : lH ls b ad z) (hz : z = nI i) (hi : i + 6 ≤ L) (hI : INV σ) (hF : FCh σ) (hP : va_P (dC, dI) q_cl (q_ws ad ca σ) H) (hS : va_S (lA s) s.heap H locs) (back : ∀ (σ2 : QS) (H1 : Heap) (locs1 : List Loc), INV σ2 → FCh σ2 → va_P (dC, dI) q_cl (q_ws ad ca σ2) H1 → va_S (lA s) s.heap H1 locs1 → W p l e room_1 s m args below meth c0 H1 locs1 cells slots Q (F0 m 1155 ls [])) : W p l e room_1 s m args below meth c0 H locs cells slots Q (F0 m 258 ls []) := by
  have hx := X.1
  have hb := X.2.1
  obtain ⟨r, hsim⟩ := SimI.fc ((sim_feed σ (xs (i + 1)) (xs (i + 2)) (xs (i + 3)) (xs (i + 4)) (xs (i + 5)) hI.1).toI hI) hF
  refine lv_aload_n hx hb dL_law_258 rfl (lv_at hl 2 rfl) ?_
  refine lw_arg (k := 1) hx hb hX hbl hS hz hi hL (by decide) (by decide) (lv_at hl 1 rfl) (lv_at hl 0 rfl) dL_law_259 dL_law_260 dL_law_261 dL_law_262 dL_law_263 ?_
  refine lw_arg (k := 2) hx hb hX hbl hS hz hi hL (by decide) (by decide) (lv_at hl 1 rfl) (lv_at hl 0 rfl) dL_law_264 dL_law_265 dL_law_266 dL_law_267 dL_law_268 ?_
  refine lw_arg (k := 3) hx hb hX hbl hS hz hi hL (by decide) (by decide) (lv_at hl 1 rfl) (lv_at hl 0 rfl) dL_law_269 dL_law_270 dL_law_271 dL_law_272 dL_law_273 ?_
  refine lw_arg (k := 4) hx hb hX hbl hS hz hi hL (by decide) (by decide) (lv_at hl 1 rfl) (lv_at hl 0 rfl) dL_law_274 dL_law_275 dL_law_276 dL_law_277 dL_law_278 ?_
  refine lw_arg (k := 5) hx hb hX hbl hS hz hi hL (by decide) (by decide) (lv_at hl 1 rfl) (lv_at hl 0 rfl) dL_law_279 dL_law_280 dL_law_281 dL_law_282 dL_law_283 ?_
  refine lw_go (mi := 73) (c := 0) (As := [(xs (i + 1)), (xs (i + 2)), (xs (i + 3)), (xs (i + 4)), (xs (i + 5))]) (rest := []) X hl.1 rfl (by decide +kernel) (by decide +kernel) lw_m23 (by decide +kernel) (by decide +kernel) rfl rfl hsim (Nat.le_of_ble_eq_true rfl) hcs hP hS dL_law_284 (fun y1 σ1 H locs hR hP hS => ?_)
  obtain ⟨e1, hev2⟩ := hR
  refine lv_aload_n hx hb dL_law_287 rfl (lv_at hl 3 rfl) ?_
  refine lw_arg (k := 1) hx hb hX hbl hS hz hi hL (by decide) (by decide) (lv_at hl 1 rfl) (lv_at hl 0 rfl) dL_law_288 dL_law_289 dL_law_290 dL_law_291 dL_law_292 ?_
  refine lw_arg (k := 2) hx hb hX hbl hS hz hi hL (by decide) (by decide) (lv_at hl 1 rfl) (lv_at hl 0 rfl) dL_law_293 dL_law_294 dL_law_295 dL_law_296 dL_law_297 ?_
  refine lw_arg (k := 3) hx hb hX hbl hS hz hi hL (by decide) (by decide) (lv_at hl 1 rfl) (lv_at hl 0 rfl) dL_law_298 dL_law_299 dL_law_300 dL_law_301 dL_law_302 ?_
  refine lw_arg (k := 4) hx hb hX hbl hS hz hi hL (by decide) (by decide) (lv_at hl 1 rfl) (lv_at hl 0 rfl) dL_law_303 dL_law_304 dL_law_305 dL_law_306 dL_law_307 ?_
  refine lw_arg (k := 5) hx hb hX hbl hS hz hi hL (by decide) (by decide) (lv_at hl 1 rfl) (lv_at hl 0 rfl) dL_law_308 dL_law_309 dL_law_310 dL_law_311 dL_law_312 ?_
  refine lw_go (mi := 121) (c := 69) (As := [(xs (i + 1)), (xs (i + 2)), (xs (i + 3)), (xs (i + 4)), (xs (i + 5))]) (rest := [.int y1]) X hl.1 rfl (by decide +kernel) (by decide +kernel) lw_m27 (by decide +kernel) (by decide +kernel) rfl rfl hev2 (Nat.le_of_ble_eq_true rfl) hcs hP hS dL_law_313 (fun y2 σ2 H locs hR2 hP hS => ?_)
  obtain ⟨e2, hI2, hF2⟩ := hR2
  refine lv_icmp_eq (tgt := 1155) hx hb dL_law_316 (by decide) (fun _ => back σ2 H locs hI2 hF2 hP hS) (fun q => absurd (e1.trans e2.symm) q)
set_option maxHeartbeats 2000000 in
set_option maxRecDepth 100000 in
theorem lw_k3 {p : Program} {l : Launch} {e : Env} {s : State} {m : MethodId} {args : Array Value} {below : List Frame} {meth : Method} {c0 : Code} {Q : State → Prop} {ad : Nat → Nat} {ca : Nat → ClassId} {dC : Nat → ClassId} {dI : Nat → Nat → Nat} {H : Heap} {locs : List Loc} {cells slots b L i : Nat} {xs : Nat → Int32} {ls : Array Slot} {z : Int32} {σ : QS} (X : lC p s m args c0 ad ca dC dI) (hX : va_X b L xs s s.heap) (hbl : b < s.heap.size) (hL : L ≤ 3072) (hcs : cells ≤ 600000 ∧ slots ≤ 7302250) (hl : lH ls b ad z) (hz : z = nI i) (hi : i + 6 ≤ L) (hI : INV σ) (hF : FCh σ) (hP : va_P (dC, dI) q_cl (q_ws ad ca σ) H) (hS : va_S (lA s) s.heap H locs) (back : ∀ (σ2 : QS) (H1 : Heap) (locs1 : List Loc), INV σ2 → FCh σ2 → va_P (dC, dI) q_cl (q_ws ad ca σ2) H1 → va_S (lA s) s.heap H1 locs1 → W p l e room_1 s m args below meth c0 H1 locs1 cells slots Q (F0 m 1155 ls [])) : W p l e room_1 s m args below meth c0 H locs cells slots Q (F0 m 321 ls []) := by
  have hx := X.1
  have hb := X.2.1
  obtain ⟨r, hsim⟩ := SimI.fc (sim_law σ (xs (i + 1)) (xs (i + 2)) hI hF) hF
  refine lv_aload_n hx hb dL_law_321 rfl (lv_at hl 2 rfl) ?_
  refine lw_arg (k := 1) hx hb hX hbl hS hz hi hL (by decide) (by decide) (lv_at hl 1 rfl) (lv_at hl 0 rfl) dL_law_322 dL_law_323 dL_law_324 dL_law_325 dL_law_326 ?_
  refine lw_arg (k := 2) hx hb hX hbl hS hz hi hL (by decide) (by decide) (lv_at hl 1 rfl) (lv_at hl 0 rfl) dL_law_327 dL_law_328 dL_law_329 dL_law_330 dL_law_331 ?_
  refine lw_go (mi := 74) (c := 0) (As := [(xs (i + 1)), (xs (i + 2))]) (rest := []) X hl.1 rfl (by decide +kernel) (by decide +kernel) lw_m28 (by decide +kernel) (by decide +kernel) rfl rfl hsim (Nat.le_of_ble_eq_true rfl) hcs hP hS dL_law_332 (fun y1 σ1 H locs hR hP hS => ?_)
  obtain ⟨e1, hev2⟩ := hR
  refine lv_aload_n hx hb dL_law_335 rfl (lv_at hl 3 rfl) ?_
  refine lw_arg (k := 1) hx hb hX hbl hS hz hi hL (by decide) (by decide) (lv_at hl 1 rfl) (lv_at hl 0 rfl) dL_law_336 dL_law_337 dL_law_338 dL_law_339 dL_law_340 ?_
  refine lw_arg (k := 2) hx hb hX hbl hS hz hi hL (by decide) (by decide) (lv_at hl 1 rfl) (lv_at hl 0 rfl) dL_law_341 dL_law_342 dL_law_343 dL_law_344 dL_law_345 ?_
  refine lw_go (mi := 143) (c := 69) (As := [(xs (i + 1)), (xs (i + 2))]) (rest := [.int y1]) X hl.1 rfl (by decide +kernel) (by decide +kernel) lw_m32 (by decide +kernel) (by decide +kernel) rfl rfl hev2 (Nat.le_of_ble_eq_true rfl) hcs hP hS dL_law_346 (fun y2 σ2 H locs hR2 hP hS => ?_)
  obtain ⟨e2, hI2, hF2⟩ := hR2
  refine lv_icmp_eq (tgt := 1155) hx hb dL_law_349 (by decide) (fun _ => back σ2 H locs hI2 hF2 hP hS) (fun q => absurd (e1.trans e2.symm) q)
set_option maxHeartbeats 2000000 in
set_option maxRecDepth 100000 in
theorem lw_k4 {p : Program} {l : Launch} {e : Env} {s : State} {m : MethodId} {args : Array Value} {below : List Frame} {meth : Method} {c0 : Code} {Q : State → Prop} {ad : Nat → Nat} {ca : Nat → ClassId} {dC : Nat → ClassId} {dI : Nat → Nat → Nat} {H : Heap} {locs : List Loc} {cells slots b L i : Nat} {xs : Nat → Int32} {ls : Array Slot} {z : Int32} {σ : QS} (X : lC p s m args c0 ad ca dC dI) (hX : va_X b L xs s s.heap) (hbl : b < s.heap.size) (hL : L ≤ 3072) (hcs : cells ≤ 600000 ∧ slots ≤ 7302250) (hl : lH ls b ad z) (hz : z = nI i) (hi : i + 6 ≤ L) (hI : INV σ) (hF : FCh σ) (hP : va_P (dC, dI) q_cl (q_ws ad ca σ) H) (hS : va_S (lA s) s.heap H locs) (back : ∀ (σ2 : QS) (H1 : Heap) (locs1 : List Loc), INV σ2 → FCh σ2 → va_P (dC, dI) q_cl (q_ws ad ca σ2) H1 → va_S (lA s) s.heap H1 locs1 → W p l e room_1 s m args below meth c0 H1 locs1 cells slots Q (F0 m 1155 ls [])) : W p l e room_1 s m args below meth c0 H locs cells slots Q (F0 m 354 ls []) := by
  have hx := X.1
  have hb := X.2.1
  obtain ⟨r, hsim⟩ := SimI.fc ((sim_act σ (xs (i + 1)) (xs (i + 2)) (xs (i + 3)) (xs (i + 4)) hI.1).toI hI) hF
  refine lv_aload_n hx hb dL_law_354 rfl (lv_at hl 2 rfl) ?_
  refine lw_arg (k := 1) hx hb hX hbl hS hz hi hL (by decide) (by decide) (lv_at hl 1 rfl) (lv_at hl 0 rfl) dL_law_355 dL_law_356 dL_law_357 dL_law_358 dL_law_359 ?_
  refine lw_arg (k := 2) hx hb hX hbl hS hz hi hL (by decide) (by decide) (lv_at hl 1 rfl) (lv_at hl 0 rfl) dL_law_360 dL_law_361 dL_law_362 dL_law_363 dL_law_364 ?_
  refine lw_arg (k := 3) hx hb hX hbl hS hz hi hL (by decide) (by decide) (lv_at hl 1 rfl) (lv_at hl 0 rfl) dL_law_365 dL_law_366 dL_law_367 dL_law_368 dL_law_369 ?_
  refine lw_arg (k := 4) hx hb hX hbl hS hz hi hL (by decide) (by decide) (lv_at hl 1 rfl) (lv_at hl 0 rfl) dL_law_370 dL_law_371 dL_law_372 dL_law_373 dL_law_374 ?_
  refine lw_go (mi := 75) (c := 0) (As := [(xs (i + 1)), (xs (i + 2)), (xs (i + 3)), (xs (i + 4))]) (rest := []) X hl.1 rfl (by decide +kernel) (by decide +kernel) lw_m33 (by decide +kernel) (by decide +kernel) rfl rfl hsim (Nat.le_of_ble_eq_true rfl) hcs hP hS dL_law_375 (fun y1 σ1 H locs hR hP hS => ?_)
  obtain ⟨e1, hev2⟩ := hR
  refine lv_aload_n hx hb dL_law_378 rfl (lv_at hl 3 rfl) ?_
  refine lw_arg (k := 1) hx hb hX hbl hS hz hi hL (by decide) (by decide) (lv_at hl 1 rfl) (lv_at hl 0 rfl) dL_law_379 dL_law_380 dL_law_381 dL_law_382 dL_law_383 ?_
  refine lw_arg (k := 2) hx hb hX hbl hS hz hi hL (by decide) (by decide) (lv_at hl 1 rfl) (lv_at hl 0 rfl) dL_law_384 dL_law_385 dL_law_386 dL_law_387 dL_law_388 ?_
  refine lw_arg (k := 3) hx hb hX hbl hS hz hi hL (by decide) (by decide) (lv_at hl 1 rfl) (lv_at hl 0 rfl) dL_law_389 dL_law_390 dL_law_391 dL_law_392 dL_law_393 ?_
  refine lw_arg (k := 4) hx hb hX hbl hS hz hi hL (by decide) (by decide) (lv_at hl 1 rfl) (lv_at hl 0 rfl) dL_law_394 dL_law_395 dL_law_396 dL_law_397 dL_law_398 ?_
  refine lw_go (mi := 118) (c := 69) (As := [(xs (i + 1)), (xs (i + 2)), (xs (i + 3)), (xs (i + 4))]) (rest := [.int y1]) X hl.1 rfl (by decide +kernel) (by decide +kernel) lw_m37 (by decide +kernel) (by decide +kernel) rfl rfl hev2 (Nat.le_of_ble_eq_true rfl) hcs hP hS dL_law_399 (fun y2 σ2 H locs hR2 hP hS => ?_)
  obtain ⟨e2, hI2, hF2⟩ := hR2
  refine lv_icmp_eq (tgt := 1155) hx hb dL_law_402 (by decide) (fun _ => back σ2 H locs hI2 hF2 hP hS) (fun q => absurd (e1.trans e2.symm) q)
set_option maxHeartbeats 2000000 in
set_option maxRecDepth 100000 in
theorem lw_k5 {p : Program} {l : Launch} {e : Env} {s : State} {m : MethodId} {args : Array Value} {below : List Frame} {meth : Method} {c0 : Code} {Q : State → Prop} {ad : Nat → Nat} {ca : Nat → ClassId} {dC : Nat → ClassId} {dI : Nat → Nat → Nat} {H : Heap} {locs : List Loc} {cells slots b L i : Nat} {xs : Nat → Int32} {ls : Array Slot} {z : Int32} {σ : QS} (X : lC p s m args c0 ad ca dC dI) (hX : va_X b L xs s s.heap) (hbl : b < s.heap.size) (hL : L ≤ 3072) (hcs : cells ≤ 600000 ∧ slots ≤ 7302250) (hl : lH ls b ad z) (hz : z = nI i) (hi : i + 6 ≤ L) (hI : INV σ) (hF : FCh σ) (hP : va_P (dC, dI) q_cl (q_ws ad ca σ) H) (hS : va_S (lA s) s.heap H locs) (back : ∀ (σ2 : QS) (H1 : Heap) (locs1 : List Loc), INV σ2 → FCh σ2 → va_P (dC, dI) q_cl (q_ws ad ca σ2) H1 → va_S (lA s) s.heap H1 locs1 → W p l e room_1 s m args below meth c0 H1 locs1 cells slots Q (F0 m 1155 ls [])) : W p l e room_1 s m args below meth c0 H locs cells slots Q (F0 m 407 ls []) := by
  have hx := X.1
  have hb := X.2.1
  obtain ⟨r, hsim⟩ := SimI.fc ((sim_noActs σ (xs (i + 1)) hI.1).toI hI) hF
  refine lv_aload_n hx hb dL_law_407 rfl (lv_at hl 2 rfl) ?_
  refine lw_arg (k := 1) hx hb hX hbl hS hz hi hL (by decide) (by decide) (lv_at hl 1 rfl) (lv_at hl 0 rfl) dL_law_408 dL_law_409 dL_law_410 dL_law_411 dL_law_412 ?_
  refine lw_go (mi := 76) (c := 0) (As := [(xs (i + 1))]) (rest := []) X hl.1 rfl (by decide +kernel) (by decide +kernel) lw_m38 (by decide +kernel) (by decide +kernel) rfl rfl hsim (Nat.le_of_ble_eq_true rfl) hcs hP hS dL_law_413 (fun y1 σ1 H locs hR hP hS => ?_)
  obtain ⟨e1, hev2⟩ := hR
  refine lv_aload_n hx hb dL_law_416 rfl (lv_at hl 3 rfl) ?_
  refine lw_arg (k := 1) hx hb hX hbl hS hz hi hL (by decide) (by decide) (lv_at hl 1 rfl) (lv_at hl 0 rfl) dL_law_417 dL_law_418 dL_law_419 dL_law_420 dL_law_421 ?_
  refine lw_go (mi := 119) (c := 69) (As := [(xs (i + 1))]) (rest := [.int y1]) X hl.1 rfl (by decide +kernel) (by decide +kernel) lw_m42 (by decide +kernel) (by decide +kernel) rfl rfl hev2 (Nat.le_of_ble_eq_true rfl) hcs hP hS dL_law_422 (fun y2 σ2 H locs hR2 hP hS => ?_)
  obtain ⟨e2, hI2, hF2⟩ := hR2
  refine lv_icmp_eq (tgt := 1155) hx hb dL_law_425 (by decide) (fun _ => back σ2 H locs hI2 hF2 hP hS) (fun q => absurd (e1.trans e2.symm) q)
set_option maxHeartbeats 2000000 in
set_option maxRecDepth 100000 in
theorem lw_k6 {p : Program} {l : Launch} {e : Env} {s : State} {m : MethodId} {args : Array Value} {below : List Frame} {meth : Method} {c0 : Code} {Q : State → Prop} {ad : Nat → Nat} {ca : Nat → ClassId} {dC : Nat → ClassId} {dI : Nat → Nat → Nat} {H : Heap} {locs : List Loc} {cells slots b L i : Nat} {xs : Nat → Int32} {ls : Array Slot} {z : Int32} {σ : QS} (X : lC p s m args c0 ad ca dC dI) (hX : va_X b L xs s s.heap) (hbl : b < s.heap.size) (hL : L ≤ 3072) (hcs : cells ≤ 600000 ∧ slots ≤ 7302250) (hl : lH ls b ad z) (hz : z = nI i) (hi : i + 6 ≤ L) (hI : INV σ) (hF : FCh σ) (hP : va_P (dC, dI) q_cl (q_ws ad ca σ) H) (hS : va_S (lA s) s.heap H locs) (back : ∀ (σ2 : QS) (H1 : Heap) (locs1 : List Loc), INV σ2 → FCh σ2 → va_P (dC, dI) q_cl (q_ws ad ca σ2) H1 → va_S (lA s) s.heap H1 locs1 → W p l e room_1 s m args below meth c0 H1 locs1 cells slots Q (F0 m 1155 ls [])) : W p l e room_1 s m args below meth c0 H locs cells slots Q (F0 m 430 ls []) := by
  have hx := X.1
  have hb := X.2.1
  obtain ⟨r, hsim⟩ := SimI.fc (sim_found σ (xs (i + 1)) (xs (i + 2)) (xs (i + 3)) hI) hF
  refine lv_aload_n hx hb dL_law_430 rfl (lv_at hl 2 rfl) ?_
  refine lw_arg (k := 1) hx hb hX hbl hS hz hi hL (by decide) (by decide) (lv_at hl 1 rfl) (lv_at hl 0 rfl) dL_law_431 dL_law_432 dL_law_433 dL_law_434 dL_law_435 ?_
  refine lw_arg (k := 2) hx hb hX hbl hS hz hi hL (by decide) (by decide) (lv_at hl 1 rfl) (lv_at hl 0 rfl) dL_law_436 dL_law_437 dL_law_438 dL_law_439 dL_law_440 ?_
  refine lw_arg (k := 3) hx hb hX hbl hS hz hi hL (by decide) (by decide) (lv_at hl 1 rfl) (lv_at hl 0 rfl) dL_law_441 dL_law_442 dL_law_443 dL_law_444 dL_law_445 ?_
  refine lw_go (mi := 77) (c := 0) (As := [(xs (i + 1)), (xs (i + 2)), (xs (i + 3))]) (rest := []) X hl.1 rfl (by decide +kernel) (by decide +kernel) lw_m43 (by decide +kernel) (by decide +kernel) rfl rfl hsim (Nat.le_of_ble_eq_true rfl) hcs hP hS dL_law_446 (fun y1 σ1 H locs hR hP hS => ?_)
  obtain ⟨e1, hev2⟩ := hR
  refine lv_aload_n hx hb dL_law_449 rfl (lv_at hl 3 rfl) ?_
  refine lw_arg (k := 1) hx hb hX hbl hS hz hi hL (by decide) (by decide) (lv_at hl 1 rfl) (lv_at hl 0 rfl) dL_law_450 dL_law_451 dL_law_452 dL_law_453 dL_law_454 ?_
  refine lw_arg (k := 2) hx hb hX hbl hS hz hi hL (by decide) (by decide) (lv_at hl 1 rfl) (lv_at hl 0 rfl) dL_law_455 dL_law_456 dL_law_457 dL_law_458 dL_law_459 ?_
  refine lw_arg (k := 3) hx hb hX hbl hS hz hi hL (by decide) (by decide) (lv_at hl 1 rfl) (lv_at hl 0 rfl) dL_law_460 dL_law_461 dL_law_462 dL_law_463 dL_law_464 ?_
  refine lw_go (mi := 156) (c := 69) (As := [(xs (i + 1)), (xs (i + 2)), (xs (i + 3))]) (rest := [.int y1]) X hl.1 rfl (by decide +kernel) (by decide +kernel) lw_m47 (by decide +kernel) (by decide +kernel) rfl rfl hev2 (Nat.le_of_ble_eq_true rfl) hcs hP hS dL_law_465 (fun y2 σ2 H locs hR2 hP hS => ?_)
  obtain ⟨e2, hI2, hF2⟩ := hR2
  refine lv_icmp_eq (tgt := 1155) hx hb dL_law_468 (by decide) (fun _ => back σ2 H locs hI2 hF2 hP hS) (fun q => absurd (e1.trans e2.symm) q)
set_option maxHeartbeats 2000000 in
set_option maxRecDepth 100000 in
theorem lw_k7 {p : Program} {l : Launch} {e : Env} {s : State} {m : MethodId} {args : Array Value} {below : List Frame} {meth : Method} {c0 : Code} {Q : State → Prop} {ad : Nat → Nat} {ca : Nat → ClassId} {dC : Nat → ClassId} {dI : Nat → Nat → Nat} {H : Heap} {locs : List Loc} {cells slots b L i : Nat} {xs : Nat → Int32} {ls : Array Slot} {z : Int32} {σ : QS} (X : lC p s m args c0 ad ca dC dI) (hX : va_X b L xs s s.heap) (hbl : b < s.heap.size) (hL : L ≤ 3072) (hcs : cells ≤ 600000 ∧ slots ≤ 7302250) (hl : lH ls b ad z) (hz : z = nI i) (hi : i + 6 ≤ L) (hI : INV σ) (hF : FCh σ) (hP : va_P (dC, dI) q_cl (q_ws ad ca σ) H) (hS : va_S (lA s) s.heap H locs) (back : ∀ (σ2 : QS) (H1 : Heap) (locs1 : List Loc), INV σ2 → FCh σ2 → va_P (dC, dI) q_cl (q_ws ad ca σ2) H1 → va_S (lA s) s.heap H1 locs1 → W p l e room_1 s m args below meth c0 H1 locs1 cells slots Q (F0 m 1155 ls [])) : W p l e room_1 s m args below meth c0 H locs cells slots Q (F0 m 473 ls []) := by
  have hx := X.1
  have hb := X.2.1
  obtain ⟨r, hsim⟩ := SimI.fc (sim_hourIs σ (xs (i + 1)) (xs (i + 2)) hI) hF
  refine lv_aload_n hx hb dL_law_473 rfl (lv_at hl 2 rfl) ?_
  refine lw_arg (k := 1) hx hb hX hbl hS hz hi hL (by decide) (by decide) (lv_at hl 1 rfl) (lv_at hl 0 rfl) dL_law_474 dL_law_475 dL_law_476 dL_law_477 dL_law_478 ?_
  refine lw_arg (k := 2) hx hb hX hbl hS hz hi hL (by decide) (by decide) (lv_at hl 1 rfl) (lv_at hl 0 rfl) dL_law_479 dL_law_480 dL_law_481 dL_law_482 dL_law_483 ?_
  refine lw_go (mi := 78) (c := 0) (As := [(xs (i + 1)), (xs (i + 2))]) (rest := []) X hl.1 rfl (by decide +kernel) (by decide +kernel) lw_m48 (by decide +kernel) (by decide +kernel) rfl rfl hsim (Nat.le_of_ble_eq_true rfl) hcs hP hS dL_law_484 (fun y1 σ1 H locs hR hP hS => ?_)
  obtain ⟨e1, hev2⟩ := hR
  refine lv_aload_n hx hb dL_law_487 rfl (lv_at hl 3 rfl) ?_
  refine lw_arg (k := 1) hx hb hX hbl hS hz hi hL (by decide) (by decide) (lv_at hl 1 rfl) (lv_at hl 0 rfl) dL_law_488 dL_law_489 dL_law_490 dL_law_491 dL_law_492 ?_
  refine lw_arg (k := 2) hx hb hX hbl hS hz hi hL (by decide) (by decide) (lv_at hl 1 rfl) (lv_at hl 0 rfl) dL_law_493 dL_law_494 dL_law_495 dL_law_496 dL_law_497 ?_
  refine lw_go (mi := 157) (c := 69) (As := [(xs (i + 1)), (xs (i + 2))]) (rest := [.int y1]) X hl.1 rfl (by decide +kernel) (by decide +kernel) lw_m51 (by decide +kernel) (by decide +kernel) rfl rfl hev2 (Nat.le_of_ble_eq_true rfl) hcs hP hS dL_law_498 (fun y2 σ2 H locs hR2 hP hS => ?_)
  obtain ⟨e2, hI2, hF2⟩ := hR2
  refine lv_icmp_eq (tgt := 1155) hx hb dL_law_501 (by decide) (fun _ => back σ2 H locs hI2 hF2 hP hS) (fun q => absurd (e1.trans e2.symm) q)
set_option maxHeartbeats 2000000 in
set_option maxRecDepth 100000 in
theorem lw_k8 {p : Program} {l : Launch} {e : Env} {s : State} {m : MethodId} {args : Array Value} {below : List Frame} {meth : Method} {c0 : Code} {Q : State → Prop} {ad : Nat → Nat} {ca : Nat → ClassId} {dC : Nat → ClassId} {dI : Nat → Nat → Nat} {H : Heap} {locs : List Loc} {cells slots b L i : Nat} {xs : Nat → Int32} {ls : Array Slot} {z : Int32} {σ : QS} (X : lC p s m args c0 ad ca dC dI) (hX : va_X b L xs s s.heap) (hbl : b < s.heap.size) (hL : L ≤ 3072) (hcs : cells ≤ 600000 ∧ slots ≤ 7302250) (hl : lH ls b ad z) (hz : z = nI i) (hi : i + 6 ≤ L) (hI : INV σ) (hF : FCh σ) (hP : va_P (dC, dI) q_cl (q_ws ad ca σ) H) (hS : va_S (lA s) s.heap H locs) (back : ∀ (σ2 : QS) (H1 : Heap) (locs1 : List Loc), INV σ2 → FCh σ2 → va_P (dC, dI) q_cl (q_ws ad ca σ2) H1 → va_S (lA s) s.heap H1 locs1 → W p l e room_1 s m args below meth c0 H1 locs1 cells slots Q (F0 m 1155 ls [])) : W p l e room_1 s m args below meth c0 H locs cells slots Q (F0 m 506 ls []) := by
  have hx := X.1
  have hb := X.2.1
  obtain ⟨r, hsim⟩ := SimI.fc (sim_value σ (xs (i + 1)) (xs (i + 2)) hI) hF
  refine lv_aload_n hx hb dL_law_506 rfl (lv_at hl 2 rfl) ?_
  refine lw_arg (k := 1) hx hb hX hbl hS hz hi hL (by decide) (by decide) (lv_at hl 1 rfl) (lv_at hl 0 rfl) dL_law_507 dL_law_508 dL_law_509 dL_law_510 dL_law_511 ?_
  refine lw_arg (k := 2) hx hb hX hbl hS hz hi hL (by decide) (by decide) (lv_at hl 1 rfl) (lv_at hl 0 rfl) dL_law_512 dL_law_513 dL_law_514 dL_law_515 dL_law_516 ?_
  refine lw_go (mi := 79) (c := 0) (As := [(xs (i + 1)), (xs (i + 2))]) (rest := []) X hl.1 rfl (by decide +kernel) (by decide +kernel) lw_m52 (by decide +kernel) (by decide +kernel) rfl rfl hsim (Nat.le_of_ble_eq_true rfl) hcs hP hS dL_law_517 (fun y1 σ1 H locs hR hP hS => ?_)
  obtain ⟨e1, hev2⟩ := hR
  refine lv_aload_n hx hb dL_law_520 rfl (lv_at hl 3 rfl) ?_
  refine lw_arg (k := 1) hx hb hX hbl hS hz hi hL (by decide) (by decide) (lv_at hl 1 rfl) (lv_at hl 0 rfl) dL_law_521 dL_law_522 dL_law_523 dL_law_524 dL_law_525 ?_
  refine lw_arg (k := 2) hx hb hX hbl hS hz hi hL (by decide) (by decide) (lv_at hl 1 rfl) (lv_at hl 0 rfl) dL_law_526 dL_law_527 dL_law_528 dL_law_529 dL_law_530 ?_
  refine lw_go (mi := 160) (c := 69) (As := [(xs (i + 1)), (xs (i + 2))]) (rest := [.int y1]) X hl.1 rfl (by decide +kernel) (by decide +kernel) lw_m55 (by decide +kernel) (by decide +kernel) rfl rfl hev2 (Nat.le_of_ble_eq_true rfl) hcs hP hS dL_law_531 (fun y2 σ2 H locs hR2 hP hS => ?_)
  obtain ⟨e2, hI2, hF2⟩ := hR2
  refine lv_icmp_eq (tgt := 1155) hx hb dL_law_534 (by decide) (fun _ => back σ2 H locs hI2 hF2 hP hS) (fun q => absurd (e1.trans e2.symm) q)
set_option maxHeartbeats 2000000 in
set_option maxRecDepth 100000 in
theorem lw_k9 {p : Program} {l : Launch} {e : Env} {s : State} {m : MethodId} {args : Array Value} {below : List Frame} {meth : Method} {c0 : Code} {Q : State → Prop} {ad : Nat → Nat} {ca : Nat → ClassId} {dC : Nat → ClassId} {dI : Nat → Nat → Nat} {H : Heap} {locs : List Loc} {cells slots b L i : Nat} {xs : Nat → Int32} {ls : Array Slot} {z : Int32} {σ : QS} (X : lC p s m args c0 ad ca dC dI) (hX : va_X b L xs s s.heap) (hbl : b < s.heap.size) (hL : L ≤ 3072) (hcs : cells ≤ 600000 ∧ slots ≤ 7302250) (hl : lH ls b ad z) (hz : z = nI i) (hi : i + 6 ≤ L) (hI : INV σ) (hF : FCh σ) (hP : va_P (dC, dI) q_cl (q_ws ad ca σ) H) (hS : va_S (lA s) s.heap H locs) (back : ∀ (σ2 : QS) (H1 : Heap) (locs1 : List Loc), INV σ2 → FCh σ2 → va_P (dC, dI) q_cl (q_ws ad ca σ2) H1 → va_S (lA s) s.heap H1 locs1 → W p l e room_1 s m args below meth c0 H1 locs1 cells slots Q (F0 m 1155 ls [])) : W p l e room_1 s m args below meth c0 H locs cells slots Q (F0 m 539 ls []) := by
  have hx := X.1
  have hb := X.2.1
  obtain ⟨r, hsim⟩ := SimI.fc (sim_bestOrder σ (xs (i + 1)) (xs (i + 2)) hI) hF
  refine lv_aload_n hx hb dL_law_539 rfl (lv_at hl 2 rfl) ?_
  refine lw_arg (k := 1) hx hb hX hbl hS hz hi hL (by decide) (by decide) (lv_at hl 1 rfl) (lv_at hl 0 rfl) dL_law_540 dL_law_541 dL_law_542 dL_law_543 dL_law_544 ?_
  refine lw_arg (k := 2) hx hb hX hbl hS hz hi hL (by decide) (by decide) (lv_at hl 1 rfl) (lv_at hl 0 rfl) dL_law_545 dL_law_546 dL_law_547 dL_law_548 dL_law_549 ?_
  refine lw_go (mi := 80) (c := 0) (As := [(xs (i + 1)), (xs (i + 2))]) (rest := []) X hl.1 rfl (by decide +kernel) (by decide +kernel) lw_m56 (by decide +kernel) (by decide +kernel) rfl rfl hsim (Nat.le_of_ble_eq_true rfl) hcs hP hS dL_law_550 (fun y1 σ1 H locs hR hP hS => ?_)
  obtain ⟨e1, hev2⟩ := hR
  refine lv_aload_n hx hb dL_law_553 rfl (lv_at hl 3 rfl) ?_
  refine lw_arg (k := 1) hx hb hX hbl hS hz hi hL (by decide) (by decide) (lv_at hl 1 rfl) (lv_at hl 0 rfl) dL_law_554 dL_law_555 dL_law_556 dL_law_557 dL_law_558 ?_
  refine lw_arg (k := 2) hx hb hX hbl hS hz hi hL (by decide) (by decide) (lv_at hl 1 rfl) (lv_at hl 0 rfl) dL_law_559 dL_law_560 dL_law_561 dL_law_562 dL_law_563 ?_
  refine lw_go (mi := 163) (c := 69) (As := [(xs (i + 1)), (xs (i + 2))]) (rest := [.int y1]) X hl.1 rfl (by decide +kernel) (by decide +kernel) lw_m59 (by decide +kernel) (by decide +kernel) rfl rfl hev2 (Nat.le_of_ble_eq_true rfl) hcs hP hS dL_law_564 (fun y2 σ2 H locs hR2 hP hS => ?_)
  obtain ⟨e2, hI2, hF2⟩ := hR2
  refine lv_icmp_eq (tgt := 1155) hx hb dL_law_567 (by decide) (fun _ => back σ2 H locs hI2 hF2 hP hS) (fun q => absurd (e1.trans e2.symm) q)
set_option maxHeartbeats 2000000 in
set_option maxRecDepth 100000 in
theorem lw_k10 {p : Program} {l : Launch} {e : Env} {s : State} {m : MethodId} {args : Array Value} {below : List Frame} {meth : Method} {c0 : Code} {Q : State → Prop} {ad : Nat → Nat} {ca : Nat → ClassId} {dC : Nat → ClassId} {dI : Nat → Nat → Nat} {H : Heap} {locs : List Loc} {cells slots b L i : Nat} {xs : Nat → Int32} {ls : Array Slot} {z : Int32} {σ : QS} (X : lC p s m args c0 ad ca dC dI) (hX : va_X b L xs s s.heap) (hbl : b < s.heap.size) (hL : L ≤ 3072) (hcs : cells ≤ 600000 ∧ slots ≤ 7302250) (hl : lH ls b ad z) (hz : z = nI i) (hi : i + 6 ≤ L) (hI : INV σ) (hF : FCh σ) (hP : va_P (dC, dI) q_cl (q_ws ad ca σ) H) (hS : va_S (lA s) s.heap H locs) (back : ∀ (σ2 : QS) (H1 : Heap) (locs1 : List Loc), INV σ2 → FCh σ2 → va_P (dC, dI) q_cl (q_ws ad ca σ2) H1 → va_S (lA s) s.heap H1 locs1 → W p l e room_1 s m args below meth c0 H1 locs1 cells slots Q (F0 m 1155 ls [])) : W p l e room_1 s m args below meth c0 H locs cells slots Q (F0 m 572 ls []) := by
  have hx := X.1
  have hb := X.2.1
  obtain ⟨r, hsim⟩ := SimI.fc (sim_price σ (xs (i + 1)) hI) hF
  refine lv_aload_n hx hb dL_law_572 rfl (lv_at hl 2 rfl) ?_
  refine lw_arg (k := 1) hx hb hX hbl hS hz hi hL (by decide) (by decide) (lv_at hl 1 rfl) (lv_at hl 0 rfl) dL_law_573 dL_law_574 dL_law_575 dL_law_576 dL_law_577 ?_
  refine lw_go (mi := 81) (c := 0) (As := [(xs (i + 1))]) (rest := []) X hl.1 rfl (by decide +kernel) (by decide +kernel) lw_m60 (by decide +kernel) (by decide +kernel) rfl rfl hsim (Nat.le_of_ble_eq_true rfl) hcs hP hS dL_law_578 (fun y1 σ1 H locs hR hP hS => ?_)
  obtain ⟨e1, hev2⟩ := hR
  refine lv_aload_n hx hb dL_law_581 rfl (lv_at hl 3 rfl) ?_
  refine lw_arg (k := 1) hx hb hX hbl hS hz hi hL (by decide) (by decide) (lv_at hl 1 rfl) (lv_at hl 0 rfl) dL_law_582 dL_law_583 dL_law_584 dL_law_585 dL_law_586 ?_
  refine lw_go (mi := 164) (c := 69) (As := [(xs (i + 1))]) (rest := [.int y1]) X hl.1 rfl (by decide +kernel) (by decide +kernel) lw_m63 (by decide +kernel) (by decide +kernel) rfl rfl hev2 (Nat.le_of_ble_eq_true rfl) hcs hP hS dL_law_587 (fun y2 σ2 H locs hR2 hP hS => ?_)
  obtain ⟨e2, hI2, hF2⟩ := hR2
  refine lv_icmp_eq (tgt := 1155) hx hb dL_law_590 (by decide) (fun _ => back σ2 H locs hI2 hF2 hP hS) (fun q => absurd (e1.trans e2.symm) q)
set_option maxHeartbeats 2000000 in
set_option maxRecDepth 100000 in
theorem lw_k11 {p : Program} {l : Launch} {e : Env} {s : State} {m : MethodId} {args : Array Value} {below : List Frame} {meth : Method} {c0 : Code} {Q : State → Prop} {ad : Nat → Nat} {ca : Nat → ClassId} {dC : Nat → ClassId} {dI : Nat → Nat → Nat} {H : Heap} {locs : List Loc} {cells slots b L i : Nat} {xs : Nat → Int32} {ls : Array Slot} {z : Int32} {σ : QS} (X : lC p s m args c0 ad ca dC dI) (hX : va_X b L xs s s.heap) (hbl : b < s.heap.size) (hL : L ≤ 3072) (hcs : cells ≤ 600000 ∧ slots ≤ 7302250) (hl : lH ls b ad z) (hz : z = nI i) (hi : i + 6 ≤ L) (hI : INV σ) (hF : FCh σ) (hP : va_P (dC, dI) q_cl (q_ws ad ca σ) H) (hS : va_S (lA s) s.heap H locs) (back : ∀ (σ2 : QS) (H1 : Heap) (locs1 : List Loc), INV σ2 → FCh σ2 → va_P (dC, dI) q_cl (q_ws ad ca σ2) H1 → va_S (lA s) s.heap H1 locs1 → W p l e room_1 s m args below meth c0 H1 locs1 cells slots Q (F0 m 1155 ls [])) : W p l e room_1 s m args below meth c0 H locs cells slots Q (F0 m 595 ls []) := by
  have hx := X.1
  have hb := X.2.1
  obtain ⟨r, hsim⟩ := SimI.fc (sim_neighbour σ (xs (i + 1)) hI) hF
  refine lv_aload_n hx hb dL_law_595 rfl (lv_at hl 2 rfl) ?_
  refine lw_arg (k := 1) hx hb hX hbl hS hz hi hL (by decide) (by decide) (lv_at hl 1 rfl) (lv_at hl 0 rfl) dL_law_596 dL_law_597 dL_law_598 dL_law_599 dL_law_600 ?_
  refine lw_go (mi := 82) (c := 0) (As := [(xs (i + 1))]) (rest := []) X hl.1 rfl (by decide +kernel) (by decide +kernel) lw_m64 (by decide +kernel) (by decide +kernel) rfl rfl hsim (Nat.le_of_ble_eq_true rfl) hcs hP hS dL_law_601 (fun y1 σ1 H locs hR hP hS => ?_)
  obtain ⟨e1, hev2⟩ := hR
  refine lv_aload_n hx hb dL_law_604 rfl (lv_at hl 3 rfl) ?_
  refine lw_arg (k := 1) hx hb hX hbl hS hz hi hL (by decide) (by decide) (lv_at hl 1 rfl) (lv_at hl 0 rfl) dL_law_605 dL_law_606 dL_law_607 dL_law_608 dL_law_609 ?_
  refine lw_go (mi := 165) (c := 69) (As := [(xs (i + 1))]) (rest := [.int y1]) X hl.1 rfl (by decide +kernel) (by decide +kernel) lw_m67 (by decide +kernel) (by decide +kernel) rfl rfl hev2 (Nat.le_of_ble_eq_true rfl) hcs hP hS dL_law_610 (fun y2 σ2 H locs hR2 hP hS => ?_)
  obtain ⟨e2, hI2, hF2⟩ := hR2
  refine lv_icmp_eq (tgt := 1155) hx hb dL_law_613 (by decide) (fun _ => back σ2 H locs hI2 hF2 hP hS) (fun q => absurd (e1.trans e2.symm) q)
set_option maxHeartbeats 2000000 in
set_option maxRecDepth 100000 in
theorem lw_k12 {p : Program} {l : Launch} {e : Env} {s : State} {m : MethodId} {args : Array Value} {below : List Frame} {meth : Method} {c0 : Code} {Q : State → Prop} {ad : Nat → Nat} {ca : Nat → ClassId} {dC : Nat → ClassId} {dI : Nat → Nat → Nat} {H : Heap} {locs : List Loc} {cells slots b L i : Nat} {xs : Nat → Int32} {ls : Array Slot} {z : Int32} {σ : QS} (X : lC p s m args c0 ad ca dC dI) (hX : va_X b L xs s s.heap) (hbl : b < s.heap.size) (hL : L ≤ 3072) (hcs : cells ≤ 600000 ∧ slots ≤ 7302250) (hl : lH ls b ad z) (hz : z = nI i) (hi : i + 6 ≤ L) (hI : INV σ) (hF : FCh σ) (hP : va_P (dC, dI) q_cl (q_ws ad ca σ) H) (hS : va_S (lA s) s.heap H locs) (back : ∀ (σ2 : QS) (H1 : Heap) (locs1 : List Loc), INV σ2 → FCh σ2 → va_P (dC, dI) q_cl (q_ws ad ca σ2) H1 → va_S (lA s) s.heap H1 locs1 → W p l e room_1 s m args below meth c0 H1 locs1 cells slots Q (F0 m 1155 ls [])) : W p l e room_1 s m args below meth c0 H locs cells slots Q (F0 m 618 ls []) := by
  have hx := X.1
  have hb := X.2.1
  obtain ⟨r, hsim⟩ := SimI.fc (sim_gain σ (xs (i + 1)) (xs (i + 2)) (xs (i + 3)) hI) hF
  refine lv_aload_n hx hb dL_law_618 rfl (lv_at hl 2 rfl) ?_
  refine lw_arg (k := 1) hx hb hX hbl hS hz hi hL (by decide) (by decide) (lv_at hl 1 rfl) (lv_at hl 0 rfl) dL_law_619 dL_law_620 dL_law_621 dL_law_622 dL_law_623 ?_
  refine lw_arg (k := 2) hx hb hX hbl hS hz hi hL (by decide) (by decide) (lv_at hl 1 rfl) (lv_at hl 0 rfl) dL_law_624 dL_law_625 dL_law_626 dL_law_627 dL_law_628 ?_
  refine lw_arg (k := 3) hx hb hX hbl hS hz hi hL (by decide) (by decide) (lv_at hl 1 rfl) (lv_at hl 0 rfl) dL_law_629 dL_law_630 dL_law_631 dL_law_632 dL_law_633 ?_
  refine lw_go (mi := 83) (c := 0) (As := [(xs (i + 1)), (xs (i + 2)), (xs (i + 3))]) (rest := []) X hl.1 rfl (by decide +kernel) (by decide +kernel) lw_m68 (by decide +kernel) (by decide +kernel) rfl rfl hsim (Nat.le_of_ble_eq_true rfl) hcs hP hS dL_law_634 (fun y1 σ1 H locs hR hP hS => ?_)
  obtain ⟨e1, hev2⟩ := hR
  refine lv_aload_n hx hb dL_law_637 rfl (lv_at hl 3 rfl) ?_
  refine lw_arg (k := 1) hx hb hX hbl hS hz hi hL (by decide) (by decide) (lv_at hl 1 rfl) (lv_at hl 0 rfl) dL_law_638 dL_law_639 dL_law_640 dL_law_641 dL_law_642 ?_
  refine lw_arg (k := 2) hx hb hX hbl hS hz hi hL (by decide) (by decide) (lv_at hl 1 rfl) (lv_at hl 0 rfl) dL_law_643 dL_law_644 dL_law_645 dL_law_646 dL_law_647 ?_
  refine lw_arg (k := 3) hx hb hX hbl hS hz hi hL (by decide) (by decide) (lv_at hl 1 rfl) (lv_at hl 0 rfl) dL_law_648 dL_law_649 dL_law_650 dL_law_651 dL_law_652 ?_
  refine lw_go (mi := 170) (c := 69) (As := [(xs (i + 1)), (xs (i + 2)), (xs (i + 3))]) (rest := [.int y1]) X hl.1 rfl (by decide +kernel) (by decide +kernel) lw_m71 (by decide +kernel) (by decide +kernel) rfl rfl hev2 (Nat.le_of_ble_eq_true rfl) hcs hP hS dL_law_653 (fun y2 σ2 H locs hR2 hP hS => ?_)
  obtain ⟨e2, hI2, hF2⟩ := hR2
  refine lv_icmp_eq (tgt := 1155) hx hb dL_law_656 (by decide) (fun _ => back σ2 H locs hI2 hF2 hP hS) (fun q => absurd (e1.trans e2.symm) q)
set_option maxHeartbeats 2000000 in
set_option maxRecDepth 100000 in
theorem lw_k13 {p : Program} {l : Launch} {e : Env} {s : State} {m : MethodId} {args : Array Value} {below : List Frame} {meth : Method} {c0 : Code} {Q : State → Prop} {ad : Nat → Nat} {ca : Nat → ClassId} {dC : Nat → ClassId} {dI : Nat → Nat → Nat} {H : Heap} {locs : List Loc} {cells slots b L i : Nat} {xs : Nat → Int32} {ls : Array Slot} {z : Int32} {σ : QS} (X : lC p s m args c0 ad ca dC dI) (hX : va_X b L xs s s.heap) (hbl : b < s.heap.size) (hL : L ≤ 3072) (hcs : cells ≤ 600000 ∧ slots ≤ 7302250) (hl : lH ls b ad z) (hz : z = nI i) (hi : i + 6 ≤ L) (hI : INV σ) (hF : FCh σ) (hP : va_P (dC, dI) q_cl (q_ws ad ca σ) H) (hS : va_S (lA s) s.heap H locs) (back : ∀ (σ2 : QS) (H1 : Heap) (locs1 : List Loc), INV σ2 → FCh σ2 → va_P (dC, dI) q_cl (q_ws ad ca σ2) H1 → va_S (lA s) s.heap H1 locs1 → W p l e room_1 s m args below meth c0 H1 locs1 cells slots Q (F0 m 1155 ls [])) : W p l e room_1 s m args below meth c0 H locs cells slots Q (F0 m 661 ls []) := by
  have hx := X.1
  have hb := X.2.1
  obtain ⟨r, hsim⟩ := SimI.fc ((sim_swap σ (xs (i + 1)) (xs (i + 2)) hI.1).toI hI) hF
  refine lv_aload_n hx hb dL_law_661 rfl (lv_at hl 2 rfl) ?_
  refine lw_arg (k := 1) hx hb hX hbl hS hz hi hL (by decide) (by decide) (lv_at hl 1 rfl) (lv_at hl 0 rfl) dL_law_662 dL_law_663 dL_law_664 dL_law_665 dL_law_666 ?_
  refine lw_arg (k := 2) hx hb hX hbl hS hz hi hL (by decide) (by decide) (lv_at hl 1 rfl) (lv_at hl 0 rfl) dL_law_667 dL_law_668 dL_law_669 dL_law_670 dL_law_671 ?_
  refine lw_go (mi := 84) (c := 0) (As := [(xs (i + 1)), (xs (i + 2))]) (rest := []) X hl.1 rfl (by decide +kernel) (by decide +kernel) lw_m72 (by decide +kernel) (by decide +kernel) rfl rfl hsim (Nat.le_of_ble_eq_true rfl) hcs hP hS dL_law_672 (fun y1 σ1 H locs hR hP hS => ?_)
  obtain ⟨e1, hev2⟩ := hR
  refine lv_aload_n hx hb dL_law_675 rfl (lv_at hl 3 rfl) ?_
  refine lw_arg (k := 1) hx hb hX hbl hS hz hi hL (by decide) (by decide) (lv_at hl 1 rfl) (lv_at hl 0 rfl) dL_law_676 dL_law_677 dL_law_678 dL_law_679 dL_law_680 ?_
  refine lw_arg (k := 2) hx hb hX hbl hS hz hi hL (by decide) (by decide) (lv_at hl 1 rfl) (lv_at hl 0 rfl) dL_law_681 dL_law_682 dL_law_683 dL_law_684 dL_law_685 ?_
  refine lw_go (mi := 171) (c := 69) (As := [(xs (i + 1)), (xs (i + 2))]) (rest := [.int y1]) X hl.1 rfl (by decide +kernel) (by decide +kernel) lw_m75 (by decide +kernel) (by decide +kernel) rfl rfl hev2 (Nat.le_of_ble_eq_true rfl) hcs hP hS dL_law_686 (fun y2 σ2 H locs hR2 hP hS => ?_)
  obtain ⟨e2, hI2, hF2⟩ := hR2
  refine lv_icmp_eq (tgt := 1155) hx hb dL_law_689 (by decide) (fun _ => back σ2 H locs hI2 hF2 hP hS) (fun q => absurd (e1.trans e2.symm) q)
set_option maxHeartbeats 2000000 in
set_option maxRecDepth 100000 in
theorem lw_k14 {p : Program} {l : Launch} {e : Env} {s : State} {m : MethodId} {args : Array Value} {below : List Frame} {meth : Method} {c0 : Code} {Q : State → Prop} {ad : Nat → Nat} {ca : Nat → ClassId} {dC : Nat → ClassId} {dI : Nat → Nat → Nat} {H : Heap} {locs : List Loc} {cells slots b L i : Nat} {xs : Nat → Int32} {ls : Array Slot} {z : Int32} {σ : QS} (X : lC p s m args c0 ad ca dC dI) (hX : va_X b L xs s s.heap) (hbl : b < s.heap.size) (hL : L ≤ 3072) (hcs : cells ≤ 600000 ∧ slots ≤ 7302250) (hl : lH ls b ad z) (hz : z = nI i) (hi : i + 6 ≤ L) (hI : INV σ) (hF : FCh σ) (hP : va_P (dC, dI) q_cl (q_ws ad ca σ) H) (hS : va_S (lA s) s.heap H locs) (back : ∀ (σ2 : QS) (H1 : Heap) (locs1 : List Loc), INV σ2 → FCh σ2 → va_P (dC, dI) q_cl (q_ws ad ca σ2) H1 → va_S (lA s) s.heap H1 locs1 → W p l e room_1 s m args below meth c0 H1 locs1 cells slots Q (F0 m 1155 ls [])) : W p l e room_1 s m args below meth c0 H locs cells slots Q (F0 m 694 ls []) := by
  have hx := X.1
  have hb := X.2.1
  obtain ⟨r, hsim⟩ := SimI.fc (sim_bestSwap σ (xs (i + 1)) hI) hF
  refine lv_aload_n hx hb dL_law_694 rfl (lv_at hl 2 rfl) ?_
  refine lw_arg (k := 1) hx hb hX hbl hS hz hi hL (by decide) (by decide) (lv_at hl 1 rfl) (lv_at hl 0 rfl) dL_law_695 dL_law_696 dL_law_697 dL_law_698 dL_law_699 ?_
  refine lw_go (mi := 85) (c := 0) (As := [(xs (i + 1))]) (rest := []) X hl.1 rfl (by decide +kernel) (by decide +kernel) lw_m76 (by decide +kernel) (by decide +kernel) rfl rfl hsim (Nat.le_of_ble_eq_true rfl) hcs hP hS dL_law_700 (fun y1 σ1 H locs hR hP hS => ?_)
  obtain ⟨e1, hev2⟩ := hR
  refine lv_aload_n hx hb dL_law_703 rfl (lv_at hl 3 rfl) ?_
  refine lw_arg (k := 1) hx hb hX hbl hS hz hi hL (by decide) (by decide) (lv_at hl 1 rfl) (lv_at hl 0 rfl) dL_law_704 dL_law_705 dL_law_706 dL_law_707 dL_law_708 ?_
  refine lw_go (mi := 173) (c := 69) (As := [(xs (i + 1))]) (rest := [.int y1]) X hl.1 rfl (by decide +kernel) (by decide +kernel) lw_m79 (by decide +kernel) (by decide +kernel) rfl rfl hev2 (Nat.le_of_ble_eq_true rfl) hcs hP hS dL_law_709 (fun y2 σ2 H locs hR2 hP hS => ?_)
  obtain ⟨e2, hI2, hF2⟩ := hR2
  refine lv_icmp_eq (tgt := 1155) hx hb dL_law_712 (by decide) (fun _ => back σ2 H locs hI2 hF2 hP hS) (fun q => absurd (e1.trans e2.symm) q)
set_option maxHeartbeats 2000000 in
set_option maxRecDepth 100000 in
theorem lw_k15 {p : Program} {l : Launch} {e : Env} {s : State} {m : MethodId} {args : Array Value} {below : List Frame} {meth : Method} {c0 : Code} {Q : State → Prop} {ad : Nat → Nat} {ca : Nat → ClassId} {dC : Nat → ClassId} {dI : Nat → Nat → Nat} {H : Heap} {locs : List Loc} {cells slots b L i : Nat} {xs : Nat → Int32} {ls : Array Slot} {z : Int32} {σ : QS} (X : lC p s m args c0 ad ca dC dI) (hX : va_X b L xs s s.heap) (hbl : b < s.heap.size) (hL : L ≤ 3072) (hcs : cells ≤ 600000 ∧ slots ≤ 7302250) (hl : lH ls b ad z) (hz : z = nI i) (hi : i + 6 ≤ L) (hI : INV σ) (hF : FCh σ) (hP : va_P (dC, dI) q_cl (q_ws ad ca σ) H) (hS : va_S (lA s) s.heap H locs) (back : ∀ (σ2 : QS) (H1 : Heap) (locs1 : List Loc), INV σ2 → FCh σ2 → va_P (dC, dI) q_cl (q_ws ad ca σ2) H1 → va_S (lA s) s.heap H1 locs1 → W p l e room_1 s m args below meth c0 H1 locs1 cells slots Q (F0 m 1155 ls [])) : W p l e room_1 s m args below meth c0 H locs cells slots Q (F0 m 717 ls []) := by
  have hx := X.1
  have hb := X.2.1
  obtain ⟨r, hsim⟩ := SimI.fc (sim_tillNone σ hI) hF
  refine lv_aload_n hx hb dL_law_717 rfl (lv_at hl 2 rfl) ?_
  refine lw_go (mi := 86) (c := 0) (As := []) (rest := []) X hl.1 rfl (by decide +kernel) (by decide +kernel) lw_m80 (by decide +kernel) (by decide +kernel) rfl rfl hsim (Nat.le_of_ble_eq_true rfl) hcs hP hS dL_law_718 (fun y1 σ1 H locs hR hP hS => ?_)
  obtain ⟨e1, hev2⟩ := hR
  refine lv_aload_n hx hb dL_law_721 rfl (lv_at hl 3 rfl) ?_
  refine lw_go (mi := 174) (c := 69) (As := []) (rest := [.int y1]) X hl.1 rfl (by decide +kernel) (by decide +kernel) lw_m84 (by decide +kernel) (by decide +kernel) rfl rfl hev2 (Nat.le_of_ble_eq_true rfl) hcs hP hS dL_law_722 (fun y2 σ2 H locs hR2 hP hS => ?_)
  obtain ⟨e2, hI2, hF2⟩ := hR2
  refine lv_icmp_eq (tgt := 1155) hx hb dL_law_725 (by decide) (fun _ => back σ2 H locs hI2 hF2 hP hS) (fun q => absurd (e1.trans e2.symm) q)
set_option maxHeartbeats 2000000 in
set_option maxRecDepth 100000 in
theorem lw_k16 {p : Program} {l : Launch} {e : Env} {s : State} {m : MethodId} {args : Array Value} {below : List Frame} {meth : Method} {c0 : Code} {Q : State → Prop} {ad : Nat → Nat} {ca : Nat → ClassId} {dC : Nat → ClassId} {dI : Nat → Nat → Nat} {H : Heap} {locs : List Loc} {cells slots b L i : Nat} {xs : Nat → Int32} {ls : Array Slot} {z : Int32} {σ : QS} (X : lC p s m args c0 ad ca dC dI) (hX : va_X b L xs s s.heap) (hbl : b < s.heap.size) (hL : L ≤ 3072) (hcs : cells ≤ 600000 ∧ slots ≤ 7302250) (hl : lH ls b ad z) (hz : z = nI i) (hi : i + 6 ≤ L) (hI : INV σ) (hF : FCh σ) (hP : va_P (dC, dI) q_cl (q_ws ad ca σ) H) (hS : va_S (lA s) s.heap H locs) (back : ∀ (σ2 : QS) (H1 : Heap) (locs1 : List Loc), INV σ2 → FCh σ2 → va_P (dC, dI) q_cl (q_ws ad ca σ2) H1 → va_S (lA s) s.heap H1 locs1 → W p l e room_1 s m args below meth c0 H1 locs1 cells slots Q (F0 m 1155 ls [])) : W p l e room_1 s m args below meth c0 H locs cells slots Q (F0 m 730 ls []) := by
  have hx := X.1
  have hb := X.2.1
  obtain ⟨r, hsim⟩ := SimI.fc (sim_finesBy σ (xs (i + 1)) hI) hF
  refine lv_aload_n hx hb dL_law_730 rfl (lv_at hl 2 rfl) ?_
  refine lw_arg (k := 1) hx hb hX hbl hS hz hi hL (by decide) (by decide) (lv_at hl 1 rfl) (lv_at hl 0 rfl) dL_law_731 dL_law_732 dL_law_733 dL_law_734 dL_law_735 ?_
  refine lw_go (mi := 87) (c := 0) (As := [(xs (i + 1))]) (rest := []) X hl.1 rfl (by decide +kernel) (by decide +kernel) lw_m85 (by decide +kernel) (by decide +kernel) rfl rfl hsim (Nat.le_of_ble_eq_true rfl) hcs hP hS dL_law_736 (fun y1 σ1 H locs hR hP hS => ?_)
  obtain ⟨e1, hev2⟩ := hR
  refine lv_aload_n hx hb dL_law_739 rfl (lv_at hl 3 rfl) ?_
  refine lw_arg (k := 1) hx hb hX hbl hS hz hi hL (by decide) (by decide) (lv_at hl 1 rfl) (lv_at hl 0 rfl) dL_law_740 dL_law_741 dL_law_742 dL_law_743 dL_law_744 ?_
  refine lw_go (mi := 175) (c := 69) (As := [(xs (i + 1))]) (rest := [.int y1]) X hl.1 rfl (by decide +kernel) (by decide +kernel) lw_m88 (by decide +kernel) (by decide +kernel) rfl rfl hev2 (Nat.le_of_ble_eq_true rfl) hcs hP hS dL_law_745 (fun y2 σ2 H locs hR2 hP hS => ?_)
  obtain ⟨e2, hI2, hF2⟩ := hR2
  refine lv_icmp_eq (tgt := 1155) hx hb dL_law_748 (by decide) (fun _ => back σ2 H locs hI2 hF2 hP hS) (fun q => absurd (e1.trans e2.symm) q)
set_option maxHeartbeats 2000000 in
set_option maxRecDepth 100000 in
theorem lw_k17 {p : Program} {l : Launch} {e : Env} {s : State} {m : MethodId} {args : Array Value} {below : List Frame} {meth : Method} {c0 : Code} {Q : State → Prop} {ad : Nat → Nat} {ca : Nat → ClassId} {dC : Nat → ClassId} {dI : Nat → Nat → Nat} {H : Heap} {locs : List Loc} {cells slots b L i : Nat} {xs : Nat → Int32} {ls : Array Slot} {z : Int32} {σ : QS} (X : lC p s m args c0 ad ca dC dI) (hX : va_X b L xs s s.heap) (hbl : b < s.heap.size) (hL : L ≤ 3072) (hcs : cells ≤ 600000 ∧ slots ≤ 7302250) (hl : lH ls b ad z) (hz : z = nI i) (hi : i + 6 ≤ L) (hI : INV σ) (hF : FCh σ) (hP : va_P (dC, dI) q_cl (q_ws ad ca σ) H) (hS : va_S (lA s) s.heap H locs) (back : ∀ (σ2 : QS) (H1 : Heap) (locs1 : List Loc), INV σ2 → FCh σ2 → va_P (dC, dI) q_cl (q_ws ad ca σ2) H1 → va_S (lA s) s.heap H1 locs1 → W p l e room_1 s m args below meth c0 H1 locs1 cells slots Q (F0 m 1155 ls [])) : W p l e room_1 s m args below meth c0 H locs cells slots Q (F0 m 753 ls []) := by
  have hx := X.1
  have hb := X.2.1
  obtain ⟨r, hsim⟩ := SimI.fc ((sim_touching σ (xs (i + 1)) (xs (i + 2)) hI.1).toI hI) hF
  refine lv_aload_n hx hb dL_law_753 rfl (lv_at hl 2 rfl) ?_
  refine lw_arg (k := 1) hx hb hX hbl hS hz hi hL (by decide) (by decide) (lv_at hl 1 rfl) (lv_at hl 0 rfl) dL_law_754 dL_law_755 dL_law_756 dL_law_757 dL_law_758 ?_
  refine lw_arg (k := 2) hx hb hX hbl hS hz hi hL (by decide) (by decide) (lv_at hl 1 rfl) (lv_at hl 0 rfl) dL_law_759 dL_law_760 dL_law_761 dL_law_762 dL_law_763 ?_
  refine lw_go (mi := 88) (c := 0) (As := [(xs (i + 1)), (xs (i + 2))]) (rest := []) X hl.1 rfl (by decide +kernel) (by decide +kernel) lw_m89 (by decide +kernel) (by decide +kernel) rfl rfl hsim (Nat.le_of_ble_eq_true rfl) hcs hP hS dL_law_764 (fun y1 σ1 H locs hR hP hS => ?_)
  obtain ⟨e1, hev2⟩ := hR
  refine lv_aload_n hx hb dL_law_767 rfl (lv_at hl 3 rfl) ?_
  refine lw_arg (k := 1) hx hb hX hbl hS hz hi hL (by decide) (by decide) (lv_at hl 1 rfl) (lv_at hl 0 rfl) dL_law_768 dL_law_769 dL_law_770 dL_law_771 dL_law_772 ?_
  refine lw_arg (k := 2) hx hb hX hbl hS hz hi hL (by decide) (by decide) (lv_at hl 1 rfl) (lv_at hl 0 rfl) dL_law_773 dL_law_774 dL_law_775 dL_law_776 dL_law_777 ?_
  refine lw_go (mi := 176) (c := 69) (As := [(xs (i + 1)), (xs (i + 2))]) (rest := [.int y1]) X hl.1 rfl (by decide +kernel) (by decide +kernel) lw_m92 (by decide +kernel) (by decide +kernel) rfl rfl hev2 (Nat.le_of_ble_eq_true rfl) hcs hP hS dL_law_778 (fun y2 σ2 H locs hR2 hP hS => ?_)
  obtain ⟨e2, hI2, hF2⟩ := hR2
  refine lv_icmp_eq (tgt := 1155) hx hb dL_law_781 (by decide) (fun _ => back σ2 H locs hI2 hF2 hP hS) (fun q => absurd (e1.trans e2.symm) q)
set_option maxHeartbeats 2000000 in
set_option maxRecDepth 100000 in
theorem lw_k18 {p : Program} {l : Launch} {e : Env} {s : State} {m : MethodId} {args : Array Value} {below : List Frame} {meth : Method} {c0 : Code} {Q : State → Prop} {ad : Nat → Nat} {ca : Nat → ClassId} {dC : Nat → ClassId} {dI : Nat → Nat → Nat} {H : Heap} {locs : List Loc} {cells slots b L i : Nat} {xs : Nat → Int32} {ls : Array Slot} {z : Int32} {σ : QS} (X : lC p s m args c0 ad ca dC dI) (hX : va_X b L xs s s.heap) (hbl : b < s.heap.size) (hL : L ≤ 3072) (hcs : cells ≤ 600000 ∧ slots ≤ 7302250) (hl : lH ls b ad z) (hz : z = nI i) (hi : i + 6 ≤ L) (hI : INV σ) (hF : FCh σ) (hP : va_P (dC, dI) q_cl (q_ws ad ca σ) H) (hS : va_S (lA s) s.heap H locs) (back : ∀ (σ2 : QS) (H1 : Heap) (locs1 : List Loc), INV σ2 → FCh σ2 → va_P (dC, dI) q_cl (q_ws ad ca σ2) H1 → va_S (lA s) s.heap H1 locs1 → W p l e room_1 s m args below meth c0 H1 locs1 cells slots Q (F0 m 1155 ls [])) : W p l e room_1 s m args below meth c0 H locs cells slots Q (F0 m 786 ls []) := by
  have hx := X.1
  have hb := X.2.1
  obtain ⟨r, hsim⟩ := SimI.fc ((sim_searches σ (xs (i + 1)) (xs (i + 2)) hI.1).toI hI) hF
  refine lv_aload_n hx hb dL_law_786 rfl (lv_at hl 2 rfl) ?_
  refine lw_arg (k := 1) hx hb hX hbl hS hz hi hL (by decide) (by decide) (lv_at hl 1 rfl) (lv_at hl 0 rfl) dL_law_787 dL_law_788 dL_law_789 dL_law_790 dL_law_791 ?_
  refine lw_arg (k := 2) hx hb hX hbl hS hz hi hL (by decide) (by decide) (lv_at hl 1 rfl) (lv_at hl 0 rfl) dL_law_792 dL_law_793 dL_law_794 dL_law_795 dL_law_796 ?_
  refine lw_go (mi := 89) (c := 0) (As := [(xs (i + 1)), (xs (i + 2))]) (rest := []) X hl.1 rfl (by decide +kernel) (by decide +kernel) lw_m93 (by decide +kernel) (by decide +kernel) rfl rfl hsim (Nat.le_of_ble_eq_true rfl) hcs hP hS dL_law_797 (fun y1 σ1 H locs hR hP hS => ?_)
  obtain ⟨e1, hev2⟩ := hR
  refine lv_aload_n hx hb dL_law_800 rfl (lv_at hl 3 rfl) ?_
  refine lw_arg (k := 1) hx hb hX hbl hS hz hi hL (by decide) (by decide) (lv_at hl 1 rfl) (lv_at hl 0 rfl) dL_law_801 dL_law_802 dL_law_803 dL_law_804 dL_law_805 ?_
  refine lw_arg (k := 2) hx hb hX hbl hS hz hi hL (by decide) (by decide) (lv_at hl 1 rfl) (lv_at hl 0 rfl) dL_law_806 dL_law_807 dL_law_808 dL_law_809 dL_law_810 ?_
  refine lw_go (mi := 177) (c := 69) (As := [(xs (i + 1)), (xs (i + 2))]) (rest := [.int y1]) X hl.1 rfl (by decide +kernel) (by decide +kernel) lw_m96 (by decide +kernel) (by decide +kernel) rfl rfl hev2 (Nat.le_of_ble_eq_true rfl) hcs hP hS dL_law_811 (fun y2 σ2 H locs hR2 hP hS => ?_)
  obtain ⟨e2, hI2, hF2⟩ := hR2
  refine lv_icmp_eq (tgt := 1155) hx hb dL_law_814 (by decide) (fun _ => back σ2 H locs hI2 hF2 hP hS) (fun q => absurd (e1.trans e2.symm) q)
set_option maxHeartbeats 2000000 in
set_option maxRecDepth 100000 in
theorem lw_k19 {p : Program} {l : Launch} {e : Env} {s : State} {m : MethodId} {args : Array Value} {below : List Frame} {meth : Method} {c0 : Code} {Q : State → Prop} {ad : Nat → Nat} {ca : Nat → ClassId} {dC : Nat → ClassId} {dI : Nat → Nat → Nat} {H : Heap} {locs : List Loc} {cells slots b L i : Nat} {xs : Nat → Int32} {ls : Array Slot} {z : Int32} {σ : QS} (X : lC p s m args c0 ad ca dC dI) (hX : va_X b L xs s s.heap) (hbl : b < s.heap.size) (hL : L ≤ 3072) (hcs : cells ≤ 600000 ∧ slots ≤ 7302250) (hl : lH ls b ad z) (hz : z = nI i) (hi : i + 6 ≤ L) (hI : INV σ) (hF : FCh σ) (hP : va_P (dC, dI) q_cl (q_ws ad ca σ) H) (hS : va_S (lA s) s.heap H locs) (back : ∀ (σ2 : QS) (H1 : Heap) (locs1 : List Loc), INV σ2 → FCh σ2 → va_P (dC, dI) q_cl (q_ws ad ca σ2) H1 → va_S (lA s) s.heap H1 locs1 → W p l e room_1 s m args below meth c0 H1 locs1 cells slots Q (F0 m 1155 ls [])) : W p l e room_1 s m args below meth c0 H locs cells slots Q (F0 m 819 ls []) := by
  have hx := X.1
  have hb := X.2.1
  obtain ⟨r, hsim⟩ := SimI.fc ((sim_hidden σ (xs (i + 1)) (xs (i + 2)) (xs (i + 3)) (xs (i + 4)) hI.1).toI hI) hF
  refine lv_aload_n hx hb dL_law_819 rfl (lv_at hl 2 rfl) ?_
  refine lw_arg (k := 1) hx hb hX hbl hS hz hi hL (by decide) (by decide) (lv_at hl 1 rfl) (lv_at hl 0 rfl) dL_law_820 dL_law_821 dL_law_822 dL_law_823 dL_law_824 ?_
  refine lw_arg (k := 2) hx hb hX hbl hS hz hi hL (by decide) (by decide) (lv_at hl 1 rfl) (lv_at hl 0 rfl) dL_law_825 dL_law_826 dL_law_827 dL_law_828 dL_law_829 ?_
  refine lw_arg (k := 3) hx hb hX hbl hS hz hi hL (by decide) (by decide) (lv_at hl 1 rfl) (lv_at hl 0 rfl) dL_law_830 dL_law_831 dL_law_832 dL_law_833 dL_law_834 ?_
  refine lw_arg (k := 4) hx hb hX hbl hS hz hi hL (by decide) (by decide) (lv_at hl 1 rfl) (lv_at hl 0 rfl) dL_law_835 dL_law_836 dL_law_837 dL_law_838 dL_law_839 ?_
  refine lw_go (mi := 90) (c := 0) (As := [(xs (i + 1)), (xs (i + 2)), (xs (i + 3)), (xs (i + 4))]) (rest := []) X hl.1 rfl (by decide +kernel) (by decide +kernel) lw_m97 (by decide +kernel) (by decide +kernel) rfl rfl hsim (Nat.le_of_ble_eq_true rfl) hcs hP hS dL_law_840 (fun y1 σ1 H locs hR hP hS => ?_)
  obtain ⟨e1, hev2⟩ := hR
  refine lv_aload_n hx hb dL_law_843 rfl (lv_at hl 3 rfl) ?_
  refine lw_arg (k := 1) hx hb hX hbl hS hz hi hL (by decide) (by decide) (lv_at hl 1 rfl) (lv_at hl 0 rfl) dL_law_844 dL_law_845 dL_law_846 dL_law_847 dL_law_848 ?_
  refine lw_arg (k := 2) hx hb hX hbl hS hz hi hL (by decide) (by decide) (lv_at hl 1 rfl) (lv_at hl 0 rfl) dL_law_849 dL_law_850 dL_law_851 dL_law_852 dL_law_853 ?_
  refine lw_arg (k := 3) hx hb hX hbl hS hz hi hL (by decide) (by decide) (lv_at hl 1 rfl) (lv_at hl 0 rfl) dL_law_854 dL_law_855 dL_law_856 dL_law_857 dL_law_858 ?_
  refine lw_arg (k := 4) hx hb hX hbl hS hz hi hL (by decide) (by decide) (lv_at hl 1 rfl) (lv_at hl 0 rfl) dL_law_859 dL_law_860 dL_law_861 dL_law_862 dL_law_863 ?_
  refine lw_go (mi := 182) (c := 69) (As := [(xs (i + 1)), (xs (i + 2)), (xs (i + 3)), (xs (i + 4))]) (rest := [.int y1]) X hl.1 rfl (by decide +kernel) (by decide +kernel) lw_m100 (by decide +kernel) (by decide +kernel) rfl rfl hev2 (Nat.le_of_ble_eq_true rfl) hcs hP hS dL_law_864 (fun y2 σ2 H locs hR2 hP hS => ?_)
  obtain ⟨e2, hI2, hF2⟩ := hR2
  refine lv_icmp_eq (tgt := 1155) hx hb dL_law_867 (by decide) (fun _ => back σ2 H locs hI2 hF2 hP hS) (fun q => absurd (e1.trans e2.symm) q)
set_option maxHeartbeats 2000000 in
set_option maxRecDepth 100000 in
theorem lw_k20 {p : Program} {l : Launch} {e : Env} {s : State} {m : MethodId} {args : Array Value} {below : List Frame} {meth : Method} {c0 : Code} {Q : State → Prop} {ad : Nat → Nat} {ca : Nat → ClassId} {dC : Nat → ClassId} {dI : Nat → Nat → Nat} {H : Heap} {locs : List Loc} {cells slots b L i : Nat} {xs : Nat → Int32} {ls : Array Slot} {z : Int32} {σ : QS} (X : lC p s m args c0 ad ca dC dI) (hX : va_X b L xs s s.heap) (hbl : b < s.heap.size) (hL : L ≤ 3072) (hcs : cells ≤ 600000 ∧ slots ≤ 7302250) (hl : lH ls b ad z) (hz : z = nI i) (hi : i + 6 ≤ L) (hI : INV σ) (hF : FCh σ) (hP : va_P (dC, dI) q_cl (q_ws ad ca σ) H) (hS : va_S (lA s) s.heap H locs) (back : ∀ (σ2 : QS) (H1 : Heap) (locs1 : List Loc), INV σ2 → FCh σ2 → va_P (dC, dI) q_cl (q_ws ad ca σ2) H1 → va_S (lA s) s.heap H1 locs1 → W p l e room_1 s m args below meth c0 H1 locs1 cells slots Q (F0 m 1155 ls [])) : W p l e room_1 s m args below meth c0 H locs cells slots Q (F0 m 872 ls []) := by
  have hx := X.1
  have hb := X.2.1
  obtain ⟨r, hsim⟩ := SimI.fc ((sim_says σ (xs (i + 1)) (xs (i + 2)) hI.1).toI hI) hF
  refine lv_aload_n hx hb dL_law_872 rfl (lv_at hl 2 rfl) ?_
  refine lw_arg (k := 1) hx hb hX hbl hS hz hi hL (by decide) (by decide) (lv_at hl 1 rfl) (lv_at hl 0 rfl) dL_law_873 dL_law_874 dL_law_875 dL_law_876 dL_law_877 ?_
  refine lw_arg (k := 2) hx hb hX hbl hS hz hi hL (by decide) (by decide) (lv_at hl 1 rfl) (lv_at hl 0 rfl) dL_law_878 dL_law_879 dL_law_880 dL_law_881 dL_law_882 ?_
  refine lw_go (mi := 91) (c := 0) (As := [(xs (i + 1)), (xs (i + 2))]) (rest := []) X hl.1 rfl (by decide +kernel) (by decide +kernel) lw_m101 (by decide +kernel) (by decide +kernel) rfl rfl hsim (Nat.le_of_ble_eq_true rfl) hcs hP hS dL_law_883 (fun y1 σ1 H locs hR hP hS => ?_)
  obtain ⟨e1, hev2⟩ := hR
  refine lv_aload_n hx hb dL_law_886 rfl (lv_at hl 3 rfl) ?_
  refine lw_arg (k := 1) hx hb hX hbl hS hz hi hL (by decide) (by decide) (lv_at hl 1 rfl) (lv_at hl 0 rfl) dL_law_887 dL_law_888 dL_law_889 dL_law_890 dL_law_891 ?_
  refine lw_arg (k := 2) hx hb hX hbl hS hz hi hL (by decide) (by decide) (lv_at hl 1 rfl) (lv_at hl 0 rfl) dL_law_892 dL_law_893 dL_law_894 dL_law_895 dL_law_896 ?_
  refine lw_go (mi := 183) (c := 69) (As := [(xs (i + 1)), (xs (i + 2))]) (rest := [.int y1]) X hl.1 rfl (by decide +kernel) (by decide +kernel) lw_m104 (by decide +kernel) (by decide +kernel) rfl rfl hev2 (Nat.le_of_ble_eq_true rfl) hcs hP hS dL_law_897 (fun y2 σ2 H locs hR2 hP hS => ?_)
  obtain ⟨e2, hI2, hF2⟩ := hR2
  refine lv_icmp_eq (tgt := 1155) hx hb dL_law_900 (by decide) (fun _ => back σ2 H locs hI2 hF2 hP hS) (fun q => absurd (e1.trans e2.symm) q)
set_option maxHeartbeats 2000000 in
set_option maxRecDepth 100000 in
theorem lw_k21 {p : Program} {l : Launch} {e : Env} {s : State} {m : MethodId} {args : Array Value} {below : List Frame} {meth : Method} {c0 : Code} {Q : State → Prop} {ad : Nat → Nat} {ca : Nat → ClassId} {dC : Nat → ClassId} {dI : Nat → Nat → Nat} {H : Heap} {locs : List Loc} {cells slots b L i : Nat} {xs : Nat → Int32} {ls : Array Slot} {z : Int32} {σ : QS} (X : lC p s m args c0 ad ca dC dI) (hX : va_X b L xs s s.heap) (hbl : b < s.heap.size) (hL : L ≤ 3072) (hcs : cells ≤ 600000 ∧ slots ≤ 7302250) (hl : lH ls b ad z) (hz : z = nI i) (hi : i + 6 ≤ L) (hI : INV σ) (hF : FCh σ) (hP : va_P (dC, dI) q_cl (q_ws ad ca σ) H) (hS : va_S (lA s) s.heap H locs) (back : ∀ (σ2 : QS) (H1 : Heap) (locs1 : List Loc), INV σ2 → FCh σ2 → va_P (dC, dI) q_cl (q_ws ad ca σ2) H1 → va_S (lA s) s.heap H1 locs1 → W p l e room_1 s m args below meth c0 H1 locs1 cells slots Q (F0 m 1155 ls [])) : W p l e room_1 s m args below meth c0 H locs cells slots Q (F0 m 905 ls []) := by
  have hx := X.1
  have hb := X.2.1
  obtain ⟨r, hsim⟩ := SimI.fc ((sim_holds σ (xs (i + 1)) hI.1).toI hI) hF
  refine lv_aload_n hx hb dL_law_905 rfl (lv_at hl 2 rfl) ?_
  refine lw_arg (k := 1) hx hb hX hbl hS hz hi hL (by decide) (by decide) (lv_at hl 1 rfl) (lv_at hl 0 rfl) dL_law_906 dL_law_907 dL_law_908 dL_law_909 dL_law_910 ?_
  refine lw_go (mi := 92) (c := 0) (As := [(xs (i + 1))]) (rest := []) X hl.1 rfl (by decide +kernel) (by decide +kernel) lw_m105 (by decide +kernel) (by decide +kernel) rfl rfl hsim (Nat.le_of_ble_eq_true rfl) hcs hP hS dL_law_911 (fun y1 σ1 H locs hR hP hS => ?_)
  obtain ⟨e1, hev2⟩ := hR
  refine lv_aload_n hx hb dL_law_914 rfl (lv_at hl 3 rfl) ?_
  refine lw_arg (k := 1) hx hb hX hbl hS hz hi hL (by decide) (by decide) (lv_at hl 1 rfl) (lv_at hl 0 rfl) dL_law_915 dL_law_916 dL_law_917 dL_law_918 dL_law_919 ?_
  refine lw_go (mi := 185) (c := 69) (As := [(xs (i + 1))]) (rest := [.int y1]) X hl.1 rfl (by decide +kernel) (by decide +kernel) lw_m108 (by decide +kernel) (by decide +kernel) rfl rfl hev2 (Nat.le_of_ble_eq_true rfl) hcs hP hS dL_law_920 (fun y2 σ2 H locs hR2 hP hS => ?_)
  obtain ⟨e2, hI2, hF2⟩ := hR2
  refine lv_icmp_eq (tgt := 1155) hx hb dL_law_923 (by decide) (fun _ => back σ2 H locs hI2 hF2 hP hS) (fun q => absurd (e1.trans e2.symm) q)
set_option maxHeartbeats 2000000 in
set_option maxRecDepth 100000 in
theorem lw_k22 {p : Program} {l : Launch} {e : Env} {s : State} {m : MethodId} {args : Array Value} {below : List Frame} {meth : Method} {c0 : Code} {Q : State → Prop} {ad : Nat → Nat} {ca : Nat → ClassId} {dC : Nat → ClassId} {dI : Nat → Nat → Nat} {H : Heap} {locs : List Loc} {cells slots b L i : Nat} {xs : Nat → Int32} {ls : Array Slot} {z : Int32} {σ : QS} (X : lC p s m args c0 ad ca dC dI) (hX : va_X b L xs s s.heap) (hbl : b < s.heap.size) (hL : L ≤ 3072) (hcs : cells ≤ 600000 ∧ slots ≤ 7302250) (hl : lH ls b ad z) (hz : z = nI i) (hi : i + 6 ≤ L) (hI : INV σ) (hF : FCh σ) (hP : va_P (dC, dI) q_cl (q_ws ad ca σ) H) (hS : va_S (lA s) s.heap H locs) (back : ∀ (σ2 : QS) (H1 : Heap) (locs1 : List Loc), INV σ2 → FCh σ2 → va_P (dC, dI) q_cl (q_ws ad ca σ2) H1 → va_S (lA s) s.heap H1 locs1 → W p l e room_1 s m args below meth c0 H1 locs1 cells slots Q (F0 m 1155 ls [])) : W p l e room_1 s m args below meth c0 H locs cells slots Q (F0 m 928 ls []) := by
  have hx := X.1
  have hb := X.2.1
  obtain ⟨r, hsim⟩ := SimI.fc ((sim_guilty σ (xs (i + 1)) hI.1).toI hI) hF
  refine lv_aload_n hx hb dL_law_928 rfl (lv_at hl 2 rfl) ?_
  refine lw_arg (k := 1) hx hb hX hbl hS hz hi hL (by decide) (by decide) (lv_at hl 1 rfl) (lv_at hl 0 rfl) dL_law_929 dL_law_930 dL_law_931 dL_law_932 dL_law_933 ?_
  refine lw_go (mi := 93) (c := 0) (As := [(xs (i + 1))]) (rest := []) X hl.1 rfl (by decide +kernel) (by decide +kernel) lw_m109 (by decide +kernel) (by decide +kernel) rfl rfl hsim (Nat.le_of_ble_eq_true rfl) hcs hP hS dL_law_934 (fun y1 σ1 H locs hR hP hS => ?_)
  obtain ⟨e1, hev2⟩ := hR
  refine lv_aload_n hx hb dL_law_937 rfl (lv_at hl 3 rfl) ?_
  refine lw_arg (k := 1) hx hb hX hbl hS hz hi hL (by decide) (by decide) (lv_at hl 1 rfl) (lv_at hl 0 rfl) dL_law_938 dL_law_939 dL_law_940 dL_law_941 dL_law_942 ?_
  refine lw_go (mi := 186) (c := 69) (As := [(xs (i + 1))]) (rest := [.int y1]) X hl.1 rfl (by decide +kernel) (by decide +kernel) lw_m112 (by decide +kernel) (by decide +kernel) rfl rfl hev2 (Nat.le_of_ble_eq_true rfl) hcs hP hS dL_law_943 (fun y2 σ2 H locs hR2 hP hS => ?_)
  obtain ⟨e2, hI2, hF2⟩ := hR2
  refine lv_icmp_eq (tgt := 1155) hx hb dL_law_946 (by decide) (fun _ => back σ2 H locs hI2 hF2 hP hS) (fun q => absurd (e1.trans e2.symm) q)
set_option maxHeartbeats 2000000 in
set_option maxRecDepth 100000 in
theorem lw_k23 {p : Program} {l : Launch} {e : Env} {s : State} {m : MethodId} {args : Array Value} {below : List Frame} {meth : Method} {c0 : Code} {Q : State → Prop} {ad : Nat → Nat} {ca : Nat → ClassId} {dC : Nat → ClassId} {dI : Nat → Nat → Nat} {H : Heap} {locs : List Loc} {cells slots b L i : Nat} {xs : Nat → Int32} {ls : Array Slot} {z : Int32} {σ : QS} (X : lC p s m args c0 ad ca dC dI) (hX : va_X b L xs s s.heap) (hbl : b < s.heap.size) (hL : L ≤ 3072) (hcs : cells ≤ 600000 ∧ slots ≤ 7302250) (hl : lH ls b ad z) (hz : z = nI i) (hi : i + 6 ≤ L) (hI : INV σ) (hF : FCh σ) (hP : va_P (dC, dI) q_cl (q_ws ad ca σ) H) (hS : va_S (lA s) s.heap H locs) (back : ∀ (σ2 : QS) (H1 : Heap) (locs1 : List Loc), INV σ2 → FCh σ2 → va_P (dC, dI) q_cl (q_ws ad ca σ2) H1 → va_S (lA s) s.heap H1 locs1 → W p l e room_1 s m args below meth c0 H1 locs1 cells slots Q (F0 m 1155 ls [])) : W p l e room_1 s m args below meth c0 H locs cells slots Q (F0 m 951 ls []) := by
  have hx := X.1
  have hb := X.2.1
  obtain ⟨r, hsim⟩ := SimI.fc ((sim_guest σ (xs (i + 1)) (xs (i + 2)) (xs (i + 3)) (xs (i + 4)) hI.1).toI hI) hF
  refine lv_aload_n hx hb dL_law_951 rfl (lv_at hl 2 rfl) ?_
  refine lw_arg (k := 1) hx hb hX hbl hS hz hi hL (by decide) (by decide) (lv_at hl 1 rfl) (lv_at hl 0 rfl) dL_law_952 dL_law_953 dL_law_954 dL_law_955 dL_law_956 ?_
  refine lw_arg (k := 2) hx hb hX hbl hS hz hi hL (by decide) (by decide) (lv_at hl 1 rfl) (lv_at hl 0 rfl) dL_law_957 dL_law_958 dL_law_959 dL_law_960 dL_law_961 ?_
  refine lw_arg (k := 3) hx hb hX hbl hS hz hi hL (by decide) (by decide) (lv_at hl 1 rfl) (lv_at hl 0 rfl) dL_law_962 dL_law_963 dL_law_964 dL_law_965 dL_law_966 ?_
  refine lw_arg (k := 4) hx hb hX hbl hS hz hi hL (by decide) (by decide) (lv_at hl 1 rfl) (lv_at hl 0 rfl) dL_law_967 dL_law_968 dL_law_969 dL_law_970 dL_law_971 ?_
  refine lw_go (mi := 94) (c := 0) (As := [(xs (i + 1)), (xs (i + 2)), (xs (i + 3)), (xs (i + 4))]) (rest := []) X hl.1 rfl (by decide +kernel) (by decide +kernel) lw_m113 (by decide +kernel) (by decide +kernel) rfl rfl hsim (Nat.le_of_ble_eq_true rfl) hcs hP hS dL_law_972 (fun y1 σ1 H locs hR hP hS => ?_)
  obtain ⟨e1, hev2⟩ := hR
  refine lv_aload_n hx hb dL_law_975 rfl (lv_at hl 3 rfl) ?_
  refine lw_arg (k := 1) hx hb hX hbl hS hz hi hL (by decide) (by decide) (lv_at hl 1 rfl) (lv_at hl 0 rfl) dL_law_976 dL_law_977 dL_law_978 dL_law_979 dL_law_980 ?_
  refine lw_arg (k := 2) hx hb hX hbl hS hz hi hL (by decide) (by decide) (lv_at hl 1 rfl) (lv_at hl 0 rfl) dL_law_981 dL_law_982 dL_law_983 dL_law_984 dL_law_985 ?_
  refine lw_arg (k := 3) hx hb hX hbl hS hz hi hL (by decide) (by decide) (lv_at hl 1 rfl) (lv_at hl 0 rfl) dL_law_986 dL_law_987 dL_law_988 dL_law_989 dL_law_990 ?_
  refine lw_arg (k := 4) hx hb hX hbl hS hz hi hL (by decide) (by decide) (lv_at hl 1 rfl) (lv_at hl 0 rfl) dL_law_991 dL_law_992 dL_law_993 dL_law_994 dL_law_995 ?_
  refine lw_go (mi := 188) (c := 69) (As := [(xs (i + 1)), (xs (i + 2)), (xs (i + 3)), (xs (i + 4))]) (rest := [.int y1]) X hl.1 rfl (by decide +kernel) (by decide +kernel) lw_m116 (by decide +kernel) (by decide +kernel) rfl rfl hev2 (Nat.le_of_ble_eq_true rfl) hcs hP hS dL_law_996 (fun y2 σ2 H locs hR2 hP hS => ?_)
  obtain ⟨e2, hI2, hF2⟩ := hR2
  refine lv_icmp_eq (tgt := 1155) hx hb dL_law_999 (by decide) (fun _ => back σ2 H locs hI2 hF2 hP hS) (fun q => absurd (e1.trans e2.symm) q)
set_option maxHeartbeats 2000000 in
set_option maxRecDepth 100000 in
theorem lw_k24 {p : Program} {l : Launch} {e : Env} {s : State} {m : MethodId} {args : Array Value} {below : List Frame} {meth : Method} {c0 : Code} {Q : State → Prop} {ad : Nat → Nat} {ca : Nat → ClassId} {dC : Nat → ClassId} {dI : Nat → Nat → Nat} {H : Heap} {locs : List Loc} {cells slots b L i : Nat} {xs : Nat → Int32} {ls : Array Slot} {z : Int32} {σ : QS} (X : lC p s m args c0 ad ca dC dI) (hX : va_X b L xs s s.heap) (hbl : b < s.heap.size) (hL : L ≤ 3072) (hcs : cells ≤ 600000 ∧ slots ≤ 7302250) (hl : lH ls b ad z) (hz : z = nI i) (hi : i + 6 ≤ L) (hI : INV σ) (hF : FCh σ) (hP : va_P (dC, dI) q_cl (q_ws ad ca σ) H) (hS : va_S (lA s) s.heap H locs) (back : ∀ (σ2 : QS) (H1 : Heap) (locs1 : List Loc), INV σ2 → FCh σ2 → va_P (dC, dI) q_cl (q_ws ad ca σ2) H1 → va_S (lA s) s.heap H1 locs1 → W p l e room_1 s m args below meth c0 H1 locs1 cells slots Q (F0 m 1155 ls [])) : W p l e room_1 s m args below meth c0 H locs cells slots Q (F0 m 1004 ls []) := by
  have hx := X.1
  have hb := X.2.1
  obtain ⟨r, hsim⟩ := SimI.fc ((sim_dies σ (xs (i + 1)) hI.1).toI hI) hF
  refine lv_aload_n hx hb dL_law_1004 rfl (lv_at hl 2 rfl) ?_
  refine lw_arg (k := 1) hx hb hX hbl hS hz hi hL (by decide) (by decide) (lv_at hl 1 rfl) (lv_at hl 0 rfl) dL_law_1005 dL_law_1006 dL_law_1007 dL_law_1008 dL_law_1009 ?_
  refine lw_go (mi := 95) (c := 0) (As := [(xs (i + 1))]) (rest := []) X hl.1 rfl (by decide +kernel) (by decide +kernel) lw_m117 (by decide +kernel) (by decide +kernel) rfl rfl hsim (Nat.le_of_ble_eq_true rfl) hcs hP hS dL_law_1010 (fun y1 σ1 H locs hR hP hS => ?_)
  obtain ⟨e1, hev2⟩ := hR
  refine lv_aload_n hx hb dL_law_1013 rfl (lv_at hl 3 rfl) ?_
  refine lw_arg (k := 1) hx hb hX hbl hS hz hi hL (by decide) (by decide) (lv_at hl 1 rfl) (lv_at hl 0 rfl) dL_law_1014 dL_law_1015 dL_law_1016 dL_law_1017 dL_law_1018 ?_
  refine lw_go (mi := 189) (c := 69) (As := [(xs (i + 1))]) (rest := [.int y1]) X hl.1 rfl (by decide +kernel) (by decide +kernel) lw_m120 (by decide +kernel) (by decide +kernel) rfl rfl hev2 (Nat.le_of_ble_eq_true rfl) hcs hP hS dL_law_1019 (fun y2 σ2 H locs hR2 hP hS => ?_)
  obtain ⟨e2, hI2, hF2⟩ := hR2
  refine lv_icmp_eq (tgt := 1155) hx hb dL_law_1022 (by decide) (fun _ => back σ2 H locs hI2 hF2 hP hS) (fun q => absurd (e1.trans e2.symm) q)
set_option maxHeartbeats 2000000 in
set_option maxRecDepth 100000 in
theorem lw_k25 {p : Program} {l : Launch} {e : Env} {s : State} {m : MethodId} {args : Array Value} {below : List Frame} {meth : Method} {c0 : Code} {Q : State → Prop} {ad : Nat → Nat} {ca : Nat → ClassId} {dC : Nat → ClassId} {dI : Nat → Nat → Nat} {H : Heap} {locs : List Loc} {cells slots b L i : Nat} {xs : Nat → Int32} {ls : Array Slot} {z : Int32} {σ : QS} (X : lC p s m args c0 ad ca dC dI) (hX : va_X b L xs s s.heap) (hbl : b < s.heap.size) (hL : L ≤ 3072) (hcs : cells ≤ 600000 ∧ slots ≤ 7302250) (hl : lH ls b ad z) (hz : z = nI i) (hi : i + 6 ≤ L) (hI : INV σ) (hF : FCh σ) (hP : va_P (dC, dI) q_cl (q_ws ad ca σ) H) (hS : va_S (lA s) s.heap H locs) (back : ∀ (σ2 : QS) (H1 : Heap) (locs1 : List Loc), INV σ2 → FCh σ2 → va_P (dC, dI) q_cl (q_ws ad ca σ2) H1 → va_S (lA s) s.heap H1 locs1 → W p l e room_1 s m args below meth c0 H1 locs1 cells slots Q (F0 m 1155 ls [])) : W p l e room_1 s m args below meth c0 H locs cells slots Q (F0 m 1027 ls []) := by
  have hx := X.1
  have hb := X.2.1
  obtain ⟨r, hsim⟩ := SimI.fc ((sim_seed σ (xs (i + 1)) hI.1).toI hI) hF
  refine lv_aload_n hx hb dL_law_1027 rfl (lv_at hl 2 rfl) ?_
  refine lw_arg (k := 1) hx hb hX hbl hS hz hi hL (by decide) (by decide) (lv_at hl 1 rfl) (lv_at hl 0 rfl) dL_law_1028 dL_law_1029 dL_law_1030 dL_law_1031 dL_law_1032 ?_
  refine lw_go (mi := 96) (c := 0) (As := [(xs (i + 1))]) (rest := []) X hl.1 rfl (by decide +kernel) (by decide +kernel) lw_m121 (by decide +kernel) (by decide +kernel) rfl rfl hsim (Nat.le_of_ble_eq_true rfl) hcs hP hS dL_law_1033 (fun y1 σ1 H locs hR hP hS => ?_)
  obtain ⟨e1, hev2⟩ := hR
  refine lv_aload_n hx hb dL_law_1036 rfl (lv_at hl 3 rfl) ?_
  refine lw_arg (k := 1) hx hb hX hbl hS hz hi hL (by decide) (by decide) (lv_at hl 1 rfl) (lv_at hl 0 rfl) dL_law_1037 dL_law_1038 dL_law_1039 dL_law_1040 dL_law_1041 ?_
  refine lw_go (mi := 191) (c := 69) (As := [(xs (i + 1))]) (rest := [.int y1]) X hl.1 rfl (by decide +kernel) (by decide +kernel) lw_m125 (by decide +kernel) (by decide +kernel) rfl rfl hev2 (Nat.le_of_ble_eq_true rfl) hcs hP hS dL_law_1042 (fun y2 σ2 H locs hR2 hP hS => ?_)
  obtain ⟨e2, hI2, hF2⟩ := hR2
  refine lv_icmp_eq (tgt := 1155) hx hb dL_law_1045 (by decide) (fun _ => back σ2 H locs hI2 hF2 hP hS) (fun q => absurd (e1.trans e2.symm) q)
set_option maxHeartbeats 2000000 in
set_option maxRecDepth 100000 in
theorem lw_k26 {p : Program} {l : Launch} {e : Env} {s : State} {m : MethodId} {args : Array Value} {below : List Frame} {meth : Method} {c0 : Code} {Q : State → Prop} {ad : Nat → Nat} {ca : Nat → ClassId} {dC : Nat → ClassId} {dI : Nat → Nat → Nat} {H : Heap} {locs : List Loc} {cells slots b L i : Nat} {xs : Nat → Int32} {ls : Array Slot} {z : Int32} {σ : QS} (X : lC p s m args c0 ad ca dC dI) (hX : va_X b L xs s s.heap) (hbl : b < s.heap.size) (hL : L ≤ 3072) (hcs : cells ≤ 600000 ∧ slots ≤ 7302250) (hl : lH ls b ad z) (hz : z = nI i) (hi : i + 6 ≤ L) (hI : INV σ) (hF : FCh σ) (hP : va_P (dC, dI) q_cl (q_ws ad ca σ) H) (hS : va_S (lA s) s.heap H locs) (back : ∀ (σ2 : QS) (H1 : Heap) (locs1 : List Loc), INV σ2 → FCh σ2 → va_P (dC, dI) q_cl (q_ws ad ca σ2) H1 → va_S (lA s) s.heap H1 locs1 → W p l e room_1 s m args below meth c0 H1 locs1 cells slots Q (F0 m 1155 ls [])) : W p l e room_1 s m args below meth c0 H locs cells slots Q (F0 m 1050 ls []) := by
  have hx := X.1
  have hb := X.2.1
  obtain ⟨r, hsim⟩ := SimI.fc ((sim_draw σ (xs (i + 1)) hI.1).toI hI) hF
  refine lv_aload_n hx hb dL_law_1050 rfl (lv_at hl 2 rfl) ?_
  refine lw_arg (k := 1) hx hb hX hbl hS hz hi hL (by decide) (by decide) (lv_at hl 1 rfl) (lv_at hl 0 rfl) dL_law_1051 dL_law_1052 dL_law_1053 dL_law_1054 dL_law_1055 ?_
  refine lw_go (mi := 97) (c := 0) (As := [(xs (i + 1))]) (rest := []) X hl.1 rfl (by decide +kernel) (by decide +kernel) lw_m126 (by decide +kernel) (by decide +kernel) rfl rfl hsim (Nat.le_of_ble_eq_true rfl) hcs hP hS dL_law_1056 (fun y1 σ1 H locs hR hP hS => ?_)
  obtain ⟨e1, hev2⟩ := hR
  refine lv_aload_n hx hb dL_law_1059 rfl (lv_at hl 3 rfl) ?_
  refine lw_arg (k := 1) hx hb hX hbl hS hz hi hL (by decide) (by decide) (lv_at hl 1 rfl) (lv_at hl 0 rfl) dL_law_1060 dL_law_1061 dL_law_1062 dL_law_1063 dL_law_1064 ?_
  refine lw_go (mi := 192) (c := 69) (As := [(xs (i + 1))]) (rest := [.int y1]) X hl.1 rfl (by decide +kernel) (by decide +kernel) lw_m129 (by decide +kernel) (by decide +kernel) rfl rfl hev2 (Nat.le_of_ble_eq_true rfl) hcs hP hS dL_law_1065 (fun y2 σ2 H locs hR2 hP hS => ?_)
  obtain ⟨e2, hI2, hF2⟩ := hR2
  refine lv_icmp_eq (tgt := 1155) hx hb dL_law_1068 (by decide) (fun _ => back σ2 H locs hI2 hF2 hP hS) (fun q => absurd (e1.trans e2.symm) q)
set_option maxHeartbeats 2000000 in
set_option maxRecDepth 100000 in
theorem lw_k27 {p : Program} {l : Launch} {e : Env} {s : State} {m : MethodId} {args : Array Value} {below : List Frame} {meth : Method} {c0 : Code} {Q : State → Prop} {ad : Nat → Nat} {ca : Nat → ClassId} {dC : Nat → ClassId} {dI : Nat → Nat → Nat} {H : Heap} {locs : List Loc} {cells slots b L i : Nat} {xs : Nat → Int32} {ls : Array Slot} {z : Int32} {σ : QS} (X : lC p s m args c0 ad ca dC dI) (hX : va_X b L xs s s.heap) (hbl : b < s.heap.size) (hL : L ≤ 3072) (hcs : cells ≤ 600000 ∧ slots ≤ 7302250) (hl : lH ls b ad z) (hz : z = nI i) (hi : i + 6 ≤ L) (hI : INV σ) (hF : FCh σ) (hP : va_P (dC, dI) q_cl (q_ws ad ca σ) H) (hS : va_S (lA s) s.heap H locs) (back : ∀ (σ2 : QS) (H1 : Heap) (locs1 : List Loc), INV σ2 → FCh σ2 → va_P (dC, dI) q_cl (q_ws ad ca σ2) H1 → va_S (lA s) s.heap H1 locs1 → W p l e room_1 s m args below meth c0 H1 locs1 cells slots Q (F0 m 1155 ls [])) : W p l e room_1 s m args below meth c0 H locs cells slots Q (F0 m 1073 ls []) := by
  have hx := X.1
  have hb := X.2.1
  obtain ⟨r, hsim⟩ := SimI.fc ((sim_keep σ hI.1).toI hI) hF
  refine lv_aload_n hx hb dL_law_1073 rfl (lv_at hl 2 rfl) ?_
  refine lw_go (mi := 98) (c := 0) (As := []) (rest := []) X hl.1 rfl (by decide +kernel) (by decide +kernel) lw_m130 (by decide +kernel) (by decide +kernel) rfl rfl hsim (Nat.le_of_ble_eq_true rfl) hcs hP hS dL_law_1074 (fun y1 σ1 H locs hR hP hS => ?_)
  obtain ⟨e1, hev2⟩ := hR
  refine lv_aload_n hx hb dL_law_1077 rfl (lv_at hl 3 rfl) ?_
  refine lw_go (mi := 194) (c := 69) (As := []) (rest := [.int y1]) X hl.1 rfl (by decide +kernel) (by decide +kernel) lw_m133 (by decide +kernel) (by decide +kernel) rfl rfl hev2 (Nat.le_of_ble_eq_true rfl) hcs hP hS dL_law_1078 (fun y2 σ2 H locs hR2 hP hS => ?_)
  obtain ⟨e2, hI2, hF2⟩ := hR2
  refine lv_icmp_eq (tgt := 1155) hx hb dL_law_1081 (by decide) (fun _ => back σ2 H locs hI2 hF2 hP hS) (fun q => absurd (e1.trans e2.symm) q)
set_option maxHeartbeats 2000000 in
set_option maxRecDepth 100000 in
theorem lw_k28 {p : Program} {l : Launch} {e : Env} {s : State} {m : MethodId} {args : Array Value} {below : List Frame} {meth : Method} {c0 : Code} {Q : State → Prop} {ad : Nat → Nat} {ca : Nat → ClassId} {dC : Nat → ClassId} {dI : Nat → Nat → Nat} {H : Heap} {locs : List Loc} {cells slots b L i : Nat} {xs : Nat → Int32} {ls : Array Slot} {z : Int32} {σ : QS} (X : lC p s m args c0 ad ca dC dI) (hX : va_X b L xs s s.heap) (hbl : b < s.heap.size) (hL : L ≤ 3072) (hcs : cells ≤ 600000 ∧ slots ≤ 7302250) (hl : lH ls b ad z) (hz : z = nI i) (hi : i + 6 ≤ L) (hI : INV σ) (hF : FCh σ) (hP : va_P (dC, dI) q_cl (q_ws ad ca σ) H) (hS : va_S (lA s) s.heap H locs) (back : ∀ (σ2 : QS) (H1 : Heap) (locs1 : List Loc), INV σ2 → FCh σ2 → va_P (dC, dI) q_cl (q_ws ad ca σ2) H1 → va_S (lA s) s.heap H1 locs1 → W p l e room_1 s m args below meth c0 H1 locs1 cells slots Q (F0 m 1155 ls [])) : W p l e room_1 s m args below meth c0 H locs cells slots Q (F0 m 1086 ls []) := by
  have hx := X.1
  have hb := X.2.1
  obtain ⟨r, hsim⟩ := SimI.fc ((sim_undo σ hI.1).toI hI) hF
  refine lv_aload_n hx hb dL_law_1086 rfl (lv_at hl 2 rfl) ?_
  refine lw_go (mi := 99) (c := 0) (As := []) (rest := []) X hl.1 rfl (by decide +kernel) (by decide +kernel) lw_m134 (by decide +kernel) (by decide +kernel) rfl rfl hsim (Nat.le_of_ble_eq_true rfl) hcs hP hS dL_law_1087 (fun y1 σ1 H locs hR hP hS => ?_)
  obtain ⟨e1, hev2⟩ := hR
  refine lv_aload_n hx hb dL_law_1090 rfl (lv_at hl 3 rfl) ?_
  refine lw_go (mi := 195) (c := 69) (As := []) (rest := [.int y1]) X hl.1 rfl (by decide +kernel) (by decide +kernel) lw_m138 (by decide +kernel) (by decide +kernel) rfl rfl hev2 (Nat.le_of_ble_eq_true rfl) hcs hP hS dL_law_1091 (fun y2 σ2 H locs hR2 hP hS => ?_)
  obtain ⟨e2, hI2, hF2⟩ := hR2
  refine lv_icmp_eq (tgt := 1155) hx hb dL_law_1094 (by decide) (fun _ => back σ2 H locs hI2 hF2 hP hS) (fun q => absurd (e1.trans e2.symm) q)
set_option maxHeartbeats 2000000 in
set_option maxRecDepth 100000 in
theorem lw_k29 {p : Program} {l : Launch} {e : Env} {s : State} {m : MethodId} {args : Array Value} {below : List Frame} {meth : Method} {c0 : Code} {Q : State → Prop} {ad : Nat → Nat} {ca : Nat → ClassId} {dC : Nat → ClassId} {dI : Nat → Nat → Nat} {H : Heap} {locs : List Loc} {cells slots b L i : Nat} {xs : Nat → Int32} {ls : Array Slot} {z : Int32} {σ : QS} (X : lC p s m args c0 ad ca dC dI) (hX : va_X b L xs s s.heap) (hbl : b < s.heap.size) (hL : L ≤ 3072) (hcs : cells ≤ 600000 ∧ slots ≤ 7302250) (hl : lH ls b ad z) (hz : z = nI i) (hi : i + 6 ≤ L) (hI : INV σ) (hF : FCh σ) (hP : va_P (dC, dI) q_cl (q_ws ad ca σ) H) (hS : va_S (lA s) s.heap H locs) (back : ∀ (σ2 : QS) (H1 : Heap) (locs1 : List Loc), INV σ2 → FCh σ2 → va_P (dC, dI) q_cl (q_ws ad ca σ2) H1 → va_S (lA s) s.heap H1 locs1 → W p l e room_1 s m args below meth c0 H1 locs1 cells slots Q (F0 m 1155 ls [])) : W p l e room_1 s m args below meth c0 H locs cells slots Q (F0 m 1099 ls []) := by
  have hx := X.1
  have hb := X.2.1
  obtain ⟨r, hsim⟩ := SimI.fc (sim_check σ (xs (i + 1)) (xs (i + 2)) hI) hF
  refine lv_aload_n hx hb dL_law_1099 rfl (lv_at hl 2 rfl) ?_
  refine lw_arg (k := 1) hx hb hX hbl hS hz hi hL (by decide) (by decide) (lv_at hl 1 rfl) (lv_at hl 0 rfl) dL_law_1100 dL_law_1101 dL_law_1102 dL_law_1103 dL_law_1104 ?_
  refine lw_arg (k := 2) hx hb hX hbl hS hz hi hL (by decide) (by decide) (lv_at hl 1 rfl) (lv_at hl 0 rfl) dL_law_1105 dL_law_1106 dL_law_1107 dL_law_1108 dL_law_1109 ?_
  refine lw_go (mi := 100) (c := 0) (As := [(xs (i + 1)), (xs (i + 2))]) (rest := []) X hl.1 rfl (by decide +kernel) (by decide +kernel) lw_m139 (by decide +kernel) (by decide +kernel) rfl rfl hsim (Nat.le_of_ble_eq_true rfl) hcs hP hS dL_law_1110 (fun y1 σ1 H locs hR hP hS => ?_)
  obtain ⟨e1, hev2⟩ := hR
  refine lv_aload_n hx hb dL_law_1113 rfl (lv_at hl 3 rfl) ?_
  refine lw_arg (k := 1) hx hb hX hbl hS hz hi hL (by decide) (by decide) (lv_at hl 1 rfl) (lv_at hl 0 rfl) dL_law_1114 dL_law_1115 dL_law_1116 dL_law_1117 dL_law_1118 ?_
  refine lw_arg (k := 2) hx hb hX hbl hS hz hi hL (by decide) (by decide) (lv_at hl 1 rfl) (lv_at hl 0 rfl) dL_law_1119 dL_law_1120 dL_law_1121 dL_law_1122 dL_law_1123 ?_
  refine lw_go (mi := 197) (c := 69) (As := [(xs (i + 1)), (xs (i + 2))]) (rest := [.int y1]) X hl.1 rfl (by decide +kernel) (by decide +kernel) lw_m142 (by decide +kernel) (by decide +kernel) rfl rfl hev2 (Nat.le_of_ble_eq_true rfl) hcs hP hS dL_law_1124 (fun y2 σ2 H locs hR2 hP hS => ?_)
  obtain ⟨e2, hI2, hF2⟩ := hR2
  refine lv_icmp_eq (tgt := 1155) hx hb dL_law_1127 (by decide) (fun _ => back σ2 H locs hI2 hF2 hP hS) (fun q => absurd (e1.trans e2.symm) q)
set_option maxHeartbeats 2000000 in
set_option maxRecDepth 100000 in
theorem lw_k30 {p : Program} {l : Launch} {e : Env} {s : State} {m : MethodId} {args : Array Value} {below : List Frame} {meth : Method} {c0 : Code} {Q : State → Prop} {ad : Nat → Nat} {ca : Nat → ClassId} {dC : Nat → ClassId} {dI : Nat → Nat → Nat} {H : Heap} {locs : List Loc} {cells slots b L i : Nat} {xs : Nat → Int32} {ls : Array Slot} {z : Int32} {σ : QS} (X : lC p s m args c0 ad ca dC dI) (hX : va_X b L xs s s.heap) (hbl : b < s.heap.size) (hL : L ≤ 3072) (hcs : cells ≤ 600000 ∧ slots ≤ 7302250) (hl : lH ls b ad z) (hz : z = nI i) (hi : i + 6 ≤ L) (hI : INV σ) (hF : FCh σ) (hP : va_P (dC, dI) q_cl (q_ws ad ca σ) H) (hS : va_S (lA s) s.heap H locs) (back : ∀ (σ2 : QS) (H1 : Heap) (locs1 : List Loc), INV σ2 → FCh σ2 → va_P (dC, dI) q_cl (q_ws ad ca σ2) H1 → va_S (lA s) s.heap H1 locs1 → W p l e room_1 s m args below meth c0 H1 locs1 cells slots Q (F0 m 1155 ls [])) : W p l e room_1 s m args below meth c0 H locs cells slots Q (F0 m 1132 ls []) := by
  have hx := X.1
  have hb := X.2.1
  have hc0 : σ 88 0 = σ 13 0 := by
    obtain ⟨-, n1, L1, T1, E1, lm, e3, -⟩ := hI.2.1
    rw [lm.1]
    exact e3.symm
  have hc1 : σ 88 1 = σ 22 0 := by
    obtain ⟨-, n1, L1, T1, E1, lm, e3, -⟩ := hI.2.2.1
    rw [lm.1]
    exact e3.symm
  obtain ⟨r, hsim⟩ := SimI.fc ((sim_count σ (xs (i + 1)) hI.1 hc0 hc1).toI hI) hF
  refine lv_aload_n hx hb dL_law_1132 rfl (lv_at hl 2 rfl) ?_
  refine lw_arg (k := 1) hx hb hX hbl hS hz hi hL (by decide) (by decide) (lv_at hl 1 rfl) (lv_at hl 0 rfl) dL_law_1133 dL_law_1134 dL_law_1135 dL_law_1136 dL_law_1137 ?_
  refine lw_go (mi := 101) (c := 0) (As := [(xs (i + 1))]) (rest := []) X hl.1 rfl (by decide +kernel) (by decide +kernel) lw_m143 (by decide +kernel) (by decide +kernel) rfl rfl hsim (Nat.le_of_ble_eq_true rfl) hcs hP hS dL_law_1138 (fun y1 σ1 H locs hR hP hS => ?_)
  obtain ⟨e1, hev2⟩ := hR
  refine lv_aload_n hx hb dL_law_1141 rfl (lv_at hl 3 rfl) ?_
  refine lw_arg (k := 1) hx hb hX hbl hS hz hi hL (by decide) (by decide) (lv_at hl 1 rfl) (lv_at hl 0 rfl) dL_law_1142 dL_law_1143 dL_law_1144 dL_law_1145 dL_law_1146 ?_
  refine lw_go (mi := 198) (c := 69) (As := [(xs (i + 1))]) (rest := [.int y1]) X hl.1 rfl (by decide +kernel) (by decide +kernel) lw_m146 (by decide +kernel) (by decide +kernel) rfl rfl hev2 (Nat.le_of_ble_eq_true rfl) hcs hP hS dL_law_1147 (fun y2 σ2 H locs hR2 hP hS => ?_)
  obtain ⟨e2, hI2, hF2⟩ := hR2
  refine lv_icmp_eq (tgt := 1155) hx hb dL_law_1150 (by decide) (fun _ => back σ2 H locs hI2 hF2 hP hS) (fun q => absurd (e1.trans e2.symm) q)
