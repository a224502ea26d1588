set_option maxRecDepth 100000 in
theorem lc_lane {p : Program} {l : Launch} {e : Env} {s : State} {m : MethodId} {below : List Frame} {meth : Method} {c : Code} {D : va_G} {cI : ClassId} {b L : Nat} {xs : Nat → Int32} {a bb : Nat → Nat} {wx wm : va_W} {H : Heap} {locs : List Loc} {ls : Array Slot} {i : Nat} (hL : L ≤ 2560) (CF : CallFix p m c cL_law 4 s #[Value.ref b] wsL_law RL) (hX : va_X b L xs s s.heap) (hbl : b < s.heap.size) (hK : va_K D vwCl [(cI, .int)] s) (hI : IW a bb cI wx wm) (hP : va_P D vwCl (wx ++ wm) H) (hD : va_D (fun q : Nat => s.heap.size ≤ q) (wx ++ wm)) (hS : va_S (fun q : Nat => s.heap.size ≤ q) s.heap H locs) (hl : lv_has ls 4 [(0, .ref b), (1, .ref (a 0)), (2, .ref (bb 0)), (3, .int (nI i))]) (hi5 : i + 5 ≤ L)
    (kk : ∀ (wx1 wm1 : va_W) (H1 : Heap) (locs1 : List Loc), IW a bb cI wx1 wm1 → va_P D vwCl (wx1 ++ wm1) H1 → va_D (fun q : Nat => s.heap.size ≤ q) (wx1 ++ wm1) → va_S (fun q : Nat => s.heap.size ≤ q) s.heap H1 locs1 → W p l e room_1 s m #[Value.ref b] below meth c H1 locs1 44 1382 (lw_Z below #[Value.ref b] s) (F0 m 1260 ls [])) : W p l e room_1 s m #[Value.ref b] below meth c H locs 44 1382 (lw_Z below #[Value.ref b] s) (F0 m 231 ls []) := by
  obtain ⟨hx, hb, hml, hown, hts⟩ := id CF
  have hA : ∀ q : Nat, s.heap.size ≤ q → (fun q : Nat => s.heap.size ≤ q) q := fun _ h => h
  obtain ⟨wx1, wm1, r, c1, c2, hI1, m1, m2⟩ := p_lane l D hI
  obtain ⟨f1, g1⟩ := hI.x0 wm
  obtain ⟨f2, g2⟩ := hI.m0 wx1
  refine lv_aload_n hx hb dL_law_231 rfl (lv_at hl 1 rfl) ?_
  refine kVI (n := 0) (As := []) (rest := []) CF hl hK hP hD hS hA c1 gL_law_X3_lane rfl dL_law_232 (by decide +kernel) ⟨⟨rfl, rfl⟩, ⟨Nat.le_of_ble_eq_true rfl, Nat.le_of_ble_eq_true rfl⟩, Nat.le_of_ble_eq_true rfl, Nat.le_of_ble_eq_true rfl⟩ (JN.appL m1) 0 g1 ⟨rfl, rfl⟩ rfl rfl (Nat.le_of_ble_eq_true rfl) (fun H locs hP hD hS => ?_)
  refine lv_aload_n hx hb dL_law_235 rfl (lv_at hl 2 rfl) ?_
  refine kVI (n := 0) (As := []) (rest := [.int r]) CF hl hK hP hD hS hA c2 gL_law_X4_lane rfl dL_law_236 (by decide +kernel) ⟨⟨rfl, rfl⟩, ⟨Nat.le_of_ble_eq_true rfl, Nat.le_of_ble_eq_true rfl⟩, Nat.le_of_ble_eq_true rfl, Nat.le_of_ble_eq_true rfl⟩ (JN.appR m2) wx1.length g2 ⟨rfl, rfl⟩ rfl rfl (Nat.le_of_ble_eq_true rfl) (fun H locs hP hD hS => ?_)
  exact lv_icmp_eq (tgt := 1260) hx hb dL_law_239 (by decide) (fun _ => kk wx1 wm1 H locs hI1 hP hD hS) (fun h => absurd rfl h)
set_option maxRecDepth 100000 in
theorem lc_person {p : Program} {l : Launch} {e : Env} {s : State} {m : MethodId} {below : List Frame} {meth : Method} {c : Code} {D : va_G} {cI : ClassId} {b L : Nat} {xs : Nat → Int32} {a bb : Nat → Nat} {wx wm : va_W} {H : Heap} {locs : List Loc} {ls : Array Slot} {i : Nat} (hL : L ≤ 2560) (CF : CallFix p m c cL_law 4 s #[Value.ref b] wsL_law RL) (hX : va_X b L xs s s.heap) (hbl : b < s.heap.size) (hK : va_K D vwCl [(cI, .int)] s) (hI : IW a bb cI wx wm) (hP : va_P D vwCl (wx ++ wm) H) (hD : va_D (fun q : Nat => s.heap.size ≤ q) (wx ++ wm)) (hS : va_S (fun q : Nat => s.heap.size ≤ q) s.heap H locs) (hl : lv_has ls 4 [(0, .ref b), (1, .ref (a 0)), (2, .ref (bb 0)), (3, .int (nI i))]) (hi5 : i + 5 ≤ L)
    (kk : ∀ (wx1 wm1 : va_W) (H1 : Heap) (locs1 : List Loc), IW a bb cI wx1 wm1 → va_P D vwCl (wx1 ++ wm1) H1 → va_D (fun q : Nat => s.heap.size ≤ q) (wx1 ++ wm1) → va_S (fun q : Nat => s.heap.size ≤ q) s.heap H1 locs1 → W p l e room_1 s m #[Value.ref b] below meth c H1 locs1 44 1382 (lw_Z below #[Value.ref b] s) (F0 m 1260 ls [])) : W p l e room_1 s m #[Value.ref b] below meth c H locs 44 1382 (lw_Z below #[Value.ref b] s) (F0 m 244 ls []) := by
  obtain ⟨hx, hb, hml, hown, hts⟩ := id CF
  have hA : ∀ q : Nat, s.heap.size ≤ q → (fun q : Nat => s.heap.size ≤ q) q := fun _ h => h
  obtain ⟨wx1, wm1, r, c1, c2, hI1, m1, m2⟩ := p_person l D hI (xs (i + 1)) (xs (i + 2))
  obtain ⟨f1, g1⟩ := hI.x0 wm
  obtain ⟨f2, g2⟩ := hI.m0 wx1
  refine lv_aload_n hx hb dL_law_244 rfl (lv_at hl 1 rfl) ?_
  refine ldA (pc := 245) (k := 1) hL CF hX hbl hS hl (ad1 i) (by omega) (by decide) dL_law_245 dL_law_246 dL_law_247 dL_law_248 dL_law_249 ?_
  refine ldA (pc := 250) (k := 2) hL CF hX hbl hS hl (ad2 i) (by omega) (by decide) dL_law_250 dL_law_251 dL_law_252 dL_law_253 dL_law_254 ?_
  refine kVI (n := 2) (As := [.int (xs (i + 1)), .int (xs (i + 2))]) (rest := []) CF hl hK hP hD hS hA c1 gL_law_X3_person rfl dL_law_255 (by decide +kernel) ⟨⟨rfl, rfl⟩, ⟨Nat.le_of_ble_eq_true rfl, Nat.le_of_ble_eq_true rfl⟩, Nat.le_of_ble_eq_true rfl, Nat.le_of_ble_eq_true rfl⟩ (JN.appL m1) 0 g1 ⟨rfl, rfl⟩ rfl rfl (Nat.le_of_ble_eq_true rfl) (fun H locs hP hD hS => ?_)
  refine lv_aload_n hx hb dL_law_258 rfl (lv_at hl 2 rfl) ?_
  refine ldA (pc := 259) (k := 1) hL CF hX hbl hS hl (ad1 i) (by omega) (by decide) dL_law_259 dL_law_260 dL_law_261 dL_law_262 dL_law_263 ?_
  refine ldA (pc := 264) (k := 2) hL CF hX hbl hS hl (ad2 i) (by omega) (by decide) dL_law_264 dL_law_265 dL_law_266 dL_law_267 dL_law_268 ?_
  refine kVI (n := 2) (As := [.int (xs (i + 1)), .int (xs (i + 2))]) (rest := [.int r]) CF hl hK hP hD hS hA c2 gL_law_X4_person rfl dL_law_269 (by decide +kernel) ⟨⟨rfl, rfl⟩, ⟨Nat.le_of_ble_eq_true rfl, Nat.le_of_ble_eq_true rfl⟩, Nat.le_of_ble_eq_true rfl, Nat.le_of_ble_eq_true rfl⟩ (JN.appR m2) wx1.length g2 ⟨rfl, rfl⟩ rfl rfl (Nat.le_of_ble_eq_true rfl) (fun H locs hP hD hS => ?_)
  exact lv_icmp_eq (tgt := 1260) hx hb dL_law_272 (by decide) (fun _ => kk wx1 wm1 H locs hI1 hP hD hS) (fun h => absurd rfl h)
set_option maxRecDepth 100000 in
theorem lc_thing {p : Program} {l : Launch} {e : Env} {s : State} {m : MethodId} {below : List Frame} {meth : Method} {c : Code} {D : va_G} {cI : ClassId} {b L : Nat} {xs : Nat → Int32} {a bb : Nat → Nat} {wx wm : va_W} {H : Heap} {locs : List Loc} {ls : Array Slot} {i : Nat} (hL : L ≤ 2560) (CF : CallFix p m c cL_law 4 s #[Value.ref b] wsL_law RL) (hX : va_X b L xs s s.heap) (hbl : b < s.heap.size) (hK : va_K D vwCl [(cI, .int)] s) (hI : IW a bb cI wx wm) (hP : va_P D vwCl (wx ++ wm) H) (hD : va_D (fun q : Nat => s.heap.size ≤ q) (wx ++ wm)) (hS : va_S (fun q : Nat => s.heap.size ≤ q) s.heap H locs) (hl : lv_has ls 4 [(0, .ref b), (1, .ref (a 0)), (2, .ref (bb 0)), (3, .int (nI i))]) (hi5 : i + 5 ≤ L)
    (kk : ∀ (wx1 wm1 : va_W) (H1 : Heap) (locs1 : List Loc), IW a bb cI wx1 wm1 → va_P D vwCl (wx1 ++ wm1) H1 → va_D (fun q : Nat => s.heap.size ≤ q) (wx1 ++ wm1) → va_S (fun q : Nat => s.heap.size ≤ q) s.heap H1 locs1 → W p l e room_1 s m #[Value.ref b] below meth c H1 locs1 44 1382 (lw_Z below #[Value.ref b] s) (F0 m 1260 ls [])) : W p l e room_1 s m #[Value.ref b] below meth c H locs 44 1382 (lw_Z below #[Value.ref b] s) (F0 m 277 ls []) := by
  obtain ⟨hx, hb, hml, hown, hts⟩ := id CF
  have hA : ∀ q : Nat, s.heap.size ≤ q → (fun q : Nat => s.heap.size ≤ q) q := fun _ h => h
  obtain ⟨wx1, wm1, r, c1, c2, hI1, m1, m2⟩ := p_thing l D hI (xs (i + 1)) (xs (i + 2))
  obtain ⟨f1, g1⟩ := hI.x0 wm
  obtain ⟨f2, g2⟩ := hI.m0 wx1
  refine lv_aload_n hx hb dL_law_277 rfl (lv_at hl 1 rfl) ?_
  refine ldA (pc := 278) (k := 1) hL CF hX hbl hS hl (ad1 i) (by omega) (by decide) dL_law_278 dL_law_279 dL_law_280 dL_law_281 dL_law_282 ?_
  refine ldA (pc := 283) (k := 2) hL CF hX hbl hS hl (ad2 i) (by omega) (by decide) dL_law_283 dL_law_284 dL_law_285 dL_law_286 dL_law_287 ?_
  refine kVI (n := 2) (As := [.int (xs (i + 1)), .int (xs (i + 2))]) (rest := []) CF hl hK hP hD hS hA c1 gL_law_X3_thing rfl dL_law_288 (by decide +kernel) ⟨⟨rfl, rfl⟩, ⟨Nat.le_of_ble_eq_true rfl, Nat.le_of_ble_eq_true rfl⟩, Nat.le_of_ble_eq_true rfl, Nat.le_of_ble_eq_true rfl⟩ (JN.appL m1) 0 g1 ⟨rfl, rfl⟩ rfl rfl (Nat.le_of_ble_eq_true rfl) (fun H locs hP hD hS => ?_)
  refine lv_aload_n hx hb dL_law_291 rfl (lv_at hl 2 rfl) ?_
  refine ldA (pc := 292) (k := 1) hL CF hX hbl hS hl (ad1 i) (by omega) (by decide) dL_law_292 dL_law_293 dL_law_294 dL_law_295 dL_law_296 ?_
  refine ldA (pc := 297) (k := 2) hL CF hX hbl hS hl (ad2 i) (by omega) (by decide) dL_law_297 dL_law_298 dL_law_299 dL_law_300 dL_law_301 ?_
  refine kVI (n := 2) (As := [.int (xs (i + 1)), .int (xs (i + 2))]) (rest := [.int r]) CF hl hK hP hD hS hA c2 gL_law_X4_thing rfl dL_law_302 (by decide +kernel) ⟨⟨rfl, rfl⟩, ⟨Nat.le_of_ble_eq_true rfl, Nat.le_of_ble_eq_true rfl⟩, Nat.le_of_ble_eq_true rfl, Nat.le_of_ble_eq_true rfl⟩ (JN.appR m2) wx1.length g2 ⟨rfl, rfl⟩ rfl rfl (Nat.le_of_ble_eq_true rfl) (fun H locs hP hD hS => ?_)
  exact lv_icmp_eq (tgt := 1260) hx hb dL_law_305 (by decide) (fun _ => kk wx1 wm1 H locs hI1 hP hD hS) (fun h => absurd rfl h)
set_option maxRecDepth 100000 in
theorem lc_breaks {p : Program} {l : Launch} {e : Env} {s : State} {m : MethodId} {below : List Frame} {meth : Method} {c : Code} {D : va_G} {cI : ClassId} {b L : Nat} {xs : Nat → Int32} {a bb : Nat → Nat} {wx wm : va_W} {H : Heap} {locs : List Loc} {ls : Array Slot} {i : Nat} (hL : L ≤ 2560) (CF : CallFix p m c cL_law 4 s #[Value.ref b] wsL_law RL) (hX : va_X b L xs s s.heap) (hbl : b < s.heap.size) (hK : va_K D vwCl [(cI, .int)] s) (hI : IW a bb cI wx wm) (hP : va_P D vwCl (wx ++ wm) H) (hD : va_D (fun q : Nat => s.heap.size ≤ q) (wx ++ wm)) (hS : va_S (fun q : Nat => s.heap.size ≤ q) s.heap H locs) (hl : lv_has ls 4 [(0, .ref b), (1, .ref (a 0)), (2, .ref (bb 0)), (3, .int (nI i))]) (hi5 : i + 5 ≤ L)
    (kk : ∀ (wx1 wm1 : va_W) (H1 : Heap) (locs1 : List Loc), IW a bb cI wx1 wm1 → va_P D vwCl (wx1 ++ wm1) H1 → va_D (fun q : Nat => s.heap.size ≤ q) (wx1 ++ wm1) → va_S (fun q : Nat => s.heap.size ≤ q) s.heap H1 locs1 → W p l e room_1 s m #[Value.ref b] below meth c H1 locs1 44 1382 (lw_Z below #[Value.ref b] s) (F0 m 1260 ls [])) : W p l e room_1 s m #[Value.ref b] below meth c H locs 44 1382 (lw_Z below #[Value.ref b] s) (F0 m 310 ls []) := by
  obtain ⟨hx, hb, hml, hown, hts⟩ := id CF
  have hA : ∀ q : Nat, s.heap.size ≤ q → (fun q : Nat => s.heap.size ≤ q) q := fun _ h => h
  obtain ⟨wx1, wm1, r, c1, c2, hI1, m1, m2⟩ := p_breaks l D hI (xs (i + 1)) (xs (i + 2))
  obtain ⟨f1, g1⟩ := hI.x0 wm
  obtain ⟨f2, g2⟩ := hI.m0 wx1
  refine lv_aload_n hx hb dL_law_310 rfl (lv_at hl 1 rfl) ?_
  refine ldA (pc := 311) (k := 1) hL CF hX hbl hS hl (ad1 i) (by omega) (by decide) dL_law_311 dL_law_312 dL_law_313 dL_law_314 dL_law_315 ?_
  refine ldA (pc := 316) (k := 2) hL CF hX hbl hS hl (ad2 i) (by omega) (by decide) dL_law_316 dL_law_317 dL_law_318 dL_law_319 dL_law_320 ?_
  refine kVI (n := 2) (As := [.int (xs (i + 1)), .int (xs (i + 2))]) (rest := []) CF hl hK hP hD hS hA c1 gL_law_X3_breaks rfl dL_law_321 (by decide +kernel) ⟨⟨rfl, rfl⟩, ⟨Nat.le_of_ble_eq_true rfl, Nat.le_of_ble_eq_true rfl⟩, Nat.le_of_ble_eq_true rfl, Nat.le_of_ble_eq_true rfl⟩ (JN.appL m1) 0 g1 ⟨rfl, rfl⟩ rfl rfl (Nat.le_of_ble_eq_true rfl) (fun H locs hP hD hS => ?_)
  refine lv_aload_n hx hb dL_law_324 rfl (lv_at hl 2 rfl) ?_
  refine ldA (pc := 325) (k := 1) hL CF hX hbl hS hl (ad1 i) (by omega) (by decide) dL_law_325 dL_law_326 dL_law_327 dL_law_328 dL_law_329 ?_
  refine ldA (pc := 330) (k := 2) hL CF hX hbl hS hl (ad2 i) (by omega) (by decide) dL_law_330 dL_law_331 dL_law_332 dL_law_333 dL_law_334 ?_
  refine kVI (n := 2) (As := [.int (xs (i + 1)), .int (xs (i + 2))]) (rest := [.int r]) CF hl hK hP hD hS hA c2 gL_law_X4_breaks rfl dL_law_335 (by decide +kernel) ⟨⟨rfl, rfl⟩, ⟨Nat.le_of_ble_eq_true rfl, Nat.le_of_ble_eq_true rfl⟩, Nat.le_of_ble_eq_true rfl, Nat.le_of_ble_eq_true rfl⟩ (JN.appR m2) wx1.length g2 ⟨rfl, rfl⟩ rfl rfl (Nat.le_of_ble_eq_true rfl) (fun H locs hP hD hS => ?_)
  exact lv_icmp_eq (tgt := 1260) hx hb dL_law_338 (by decide) (fun _ => kk wx1 wm1 H locs hI1 hP hD hS) (fun h => absurd rfl h)
set_option maxRecDepth 100000 in
theorem lc_rusts {p : Program} {l : Launch} {e : Env} {s : State} {m : MethodId} {below : List Frame} {meth : Method} {c : Code} {D : va_G} {cI : ClassId} {b L : Nat} {xs : Nat → Int32} {a bb : Nat → Nat} {wx wm : va_W} {H : Heap} {locs : List Loc} {ls : Array Slot} {i : Nat} (hL : L ≤ 2560) (CF : CallFix p m c cL_law 4 s #[Value.ref b] wsL_law RL) (hX : va_X b L xs s s.heap) (hbl : b < s.heap.size) (hK : va_K D vwCl [(cI, .int)] s) (hI : IW a bb cI wx wm) (hP : va_P D vwCl (wx ++ wm) H) (hD : va_D (fun q : Nat => s.heap.size ≤ q) (wx ++ wm)) (hS : va_S (fun q : Nat => s.heap.size ≤ q) s.heap H locs) (hl : lv_has ls 4 [(0, .ref b), (1, .ref (a 0)), (2, .ref (bb 0)), (3, .int (nI i))]) (hi5 : i + 5 ≤ L)
    (kk : ∀ (wx1 wm1 : va_W) (H1 : Heap) (locs1 : List Loc), IW a bb cI wx1 wm1 → va_P D vwCl (wx1 ++ wm1) H1 → va_D (fun q : Nat => s.heap.size ≤ q) (wx1 ++ wm1) → va_S (fun q : Nat => s.heap.size ≤ q) s.heap H1 locs1 → W p l e room_1 s m #[Value.ref b] below meth c H1 locs1 44 1382 (lw_Z below #[Value.ref b] s) (F0 m 1260 ls [])) : W p l e room_1 s m #[Value.ref b] below meth c H locs 44 1382 (lw_Z below #[Value.ref b] s) (F0 m 343 ls []) := by
  obtain ⟨hx, hb, hml, hown, hts⟩ := id CF
  have hA : ∀ q : Nat, s.heap.size ≤ q → (fun q : Nat => s.heap.size ≤ q) q := fun _ h => h
  obtain ⟨wx1, wm1, r, c1, c2, hI1, m1, m2⟩ := p_rusts l D hI (xs (i + 1))
  obtain ⟨f1, g1⟩ := hI.x0 wm
  obtain ⟨f2, g2⟩ := hI.m0 wx1
  refine lv_aload_n hx hb dL_law_343 rfl (lv_at hl 1 rfl) ?_
  refine ldA (pc := 344) (k := 1) hL CF hX hbl hS hl (ad1 i) (by omega) (by decide) dL_law_344 dL_law_345 dL_law_346 dL_law_347 dL_law_348 ?_
  refine kVI (n := 1) (As := [.int (xs (i + 1))]) (rest := []) CF hl hK hP hD hS hA c1 gL_law_X3_rusts rfl dL_law_349 (by decide +kernel) ⟨⟨rfl, rfl⟩, ⟨Nat.le_of_ble_eq_true rfl, Nat.le_of_ble_eq_true rfl⟩, Nat.le_of_ble_eq_true rfl, Nat.le_of_ble_eq_true rfl⟩ (JN.appL m1) 0 g1 ⟨rfl, rfl⟩ rfl rfl (Nat.le_of_ble_eq_true rfl) (fun H locs hP hD hS => ?_)
  refine lv_aload_n hx hb dL_law_352 rfl (lv_at hl 2 rfl) ?_
  refine ldA (pc := 353) (k := 1) hL CF hX hbl hS hl (ad1 i) (by omega) (by decide) dL_law_353 dL_law_354 dL_law_355 dL_law_356 dL_law_357 ?_
  refine kVI (n := 1) (As := [.int (xs (i + 1))]) (rest := [.int r]) CF hl hK hP hD hS hA c2 gL_law_X4_rusts rfl dL_law_358 (by decide +kernel) ⟨⟨rfl, rfl⟩, ⟨Nat.le_of_ble_eq_true rfl, Nat.le_of_ble_eq_true rfl⟩, Nat.le_of_ble_eq_true rfl, Nat.le_of_ble_eq_true rfl⟩ (JN.appR m2) wx1.length g2 ⟨rfl, rfl⟩ rfl rfl (Nat.le_of_ble_eq_true rfl) (fun H locs hP hD hS => ?_)
  exact lv_icmp_eq (tgt := 1260) hx hb dL_law_361 (by decide) (fun _ => kk wx1 wm1 H locs hI1 hP hD hS) (fun h => absurd rfl h)
set_option maxRecDepth 100000 in
theorem lc_says {p : Program} {l : Launch} {e : Env} {s : State} {m : MethodId} {below : List Frame} {meth : Method} {c : Code} {D : va_G} {cI : ClassId} {b L : Nat} {xs : Nat → Int32} {a bb : Nat → Nat} {wx wm : va_W} {H : Heap} {locs : List Loc} {ls : Array Slot} {i : Nat} (hL : L ≤ 2560) (CF : CallFix p m c cL_law 4 s #[Value.ref b] wsL_law RL) (hX : va_X b L xs s s.heap) (hbl : b < s.heap.size) (hK : va_K D vwCl [(cI, .int)] s) (hI : IW a bb cI wx wm) (hP : va_P D vwCl (wx ++ wm) H) (hD : va_D (fun q : Nat => s.heap.size ≤ q) (wx ++ wm)) (hS : va_S (fun q : Nat => s.heap.size ≤ q) s.heap H locs) (hl : lv_has ls 4 [(0, .ref b), (1, .ref (a 0)), (2, .ref (bb 0)), (3, .int (nI i))]) (hi5 : i + 5 ≤ L)
    (kk : ∀ (wx1 wm1 : va_W) (H1 : Heap) (locs1 : List Loc), IW a bb cI wx1 wm1 → va_P D vwCl (wx1 ++ wm1) H1 → va_D (fun q : Nat => s.heap.size ≤ q) (wx1 ++ wm1) → va_S (fun q : Nat => s.heap.size ≤ q) s.heap H1 locs1 → W p l e room_1 s m #[Value.ref b] below meth c H1 locs1 44 1382 (lw_Z below #[Value.ref b] s) (F0 m 1260 ls [])) : W p l e room_1 s m #[Value.ref b] below meth c H locs 44 1382 (lw_Z below #[Value.ref b] s) (F0 m 366 ls []) := by
  obtain ⟨hx, hb, hml, hown, hts⟩ := id CF
  have hA : ∀ q : Nat, s.heap.size ≤ q → (fun q : Nat => s.heap.size ≤ q) q := fun _ h => h
  obtain ⟨wx1, wm1, r, c1, c2, hI1, m1, m2⟩ := p_says l D hI (xs (i + 1)) (xs (i + 2))
  obtain ⟨f1, g1⟩ := hI.x0 wm
  obtain ⟨f2, g2⟩ := hI.m0 wx1
  refine lv_aload_n hx hb dL_law_366 rfl (lv_at hl 1 rfl) ?_
  refine ldA (pc := 367) (k := 1) hL CF hX hbl hS hl (ad1 i) (by omega) (by decide) dL_law_367 dL_law_368 dL_law_369 dL_law_370 dL_law_371 ?_
  refine ldA (pc := 372) (k := 2) hL CF hX hbl hS hl (ad2 i) (by omega) (by decide) dL_law_372 dL_law_373 dL_law_374 dL_law_375 dL_law_376 ?_
  refine kVI (n := 2) (As := [.int (xs (i + 1)), .int (xs (i + 2))]) (rest := []) CF hl hK hP hD hS hA c1 gL_law_X3_says rfl dL_law_377 (by decide +kernel) ⟨⟨rfl, rfl⟩, ⟨Nat.le_of_ble_eq_true rfl, Nat.le_of_ble_eq_true rfl⟩, Nat.le_of_ble_eq_true rfl, Nat.le_of_ble_eq_true rfl⟩ (JN.appL m1) 0 g1 ⟨rfl, rfl⟩ rfl rfl (Nat.le_of_ble_eq_true rfl) (fun H locs hP hD hS => ?_)
  refine lv_aload_n hx hb dL_law_380 rfl (lv_at hl 2 rfl) ?_
  refine ldA (pc := 381) (k := 1) hL CF hX hbl hS hl (ad1 i) (by omega) (by decide) dL_law_381 dL_law_382 dL_law_383 dL_law_384 dL_law_385 ?_
  refine ldA (pc := 386) (k := 2) hL CF hX hbl hS hl (ad2 i) (by omega) (by decide) dL_law_386 dL_law_387 dL_law_388 dL_law_389 dL_law_390 ?_
  refine kVI (n := 2) (As := [.int (xs (i + 1)), .int (xs (i + 2))]) (rest := [.int r]) CF hl hK hP hD hS hA c2 gL_law_X4_says rfl dL_law_391 (by decide +kernel) ⟨⟨rfl, rfl⟩, ⟨Nat.le_of_ble_eq_true rfl, Nat.le_of_ble_eq_true rfl⟩, Nat.le_of_ble_eq_true rfl, Nat.le_of_ble_eq_true rfl⟩ (JN.appR m2) wx1.length g2 ⟨rfl, rfl⟩ rfl rfl (Nat.le_of_ble_eq_true rfl) (fun H locs hP hD hS => ?_)
  exact lv_icmp_eq (tgt := 1260) hx hb dL_law_394 (by decide) (fun _ => kk wx1 wm1 H locs hI1 hP hD hS) (fun h => absurd rfl h)
set_option maxRecDepth 100000 in
theorem lc_mends {p : Program} {l : Launch} {e : Env} {s : State} {m : MethodId} {below : List Frame} {meth : Method} {c : Code} {D : va_G} {cI : ClassId} {b L : Nat} {xs : Nat → Int32} {a bb : Nat → Nat} {wx wm : va_W} {H : Heap} {locs : List Loc} {ls : Array Slot} {i : Nat} (hL : L ≤ 2560) (CF : CallFix p m c cL_law 4 s #[Value.ref b] wsL_law RL) (hX : va_X b L xs s s.heap) (hbl : b < s.heap.size) (hK : va_K D vwCl [(cI, .int)] s) (hI : IW a bb cI wx wm) (hP : va_P D vwCl (wx ++ wm) H) (hD : va_D (fun q : Nat => s.heap.size ≤ q) (wx ++ wm)) (hS : va_S (fun q : Nat => s.heap.size ≤ q) s.heap H locs) (hl : lv_has ls 4 [(0, .ref b), (1, .ref (a 0)), (2, .ref (bb 0)), (3, .int (nI i))]) (hi5 : i + 5 ≤ L)
    (kk : ∀ (wx1 wm1 : va_W) (H1 : Heap) (locs1 : List Loc), IW a bb cI wx1 wm1 → va_P D vwCl (wx1 ++ wm1) H1 → va_D (fun q : Nat => s.heap.size ≤ q) (wx1 ++ wm1) → va_S (fun q : Nat => s.heap.size ≤ q) s.heap H1 locs1 → W p l e room_1 s m #[Value.ref b] below meth c H1 locs1 44 1382 (lw_Z below #[Value.ref b] s) (F0 m 1260 ls [])) : W p l e room_1 s m #[Value.ref b] below meth c H locs 44 1382 (lw_Z below #[Value.ref b] s) (F0 m 399 ls []) := by
  obtain ⟨hx, hb, hml, hown, hts⟩ := id CF
  have hA : ∀ q : Nat, s.heap.size ≤ q → (fun q : Nat => s.heap.size ≤ q) q := fun _ h => h
  obtain ⟨wx1, wm1, r, c1, c2, hI1, m1, m2⟩ := p_mends l D hI (xs (i + 1)) (xs (i + 2))
  obtain ⟨f1, g1⟩ := hI.x0 wm
  obtain ⟨f2, g2⟩ := hI.m0 wx1
  refine lv_aload_n hx hb dL_law_399 rfl (lv_at hl 1 rfl) ?_
  refine ldA (pc := 400) (k := 1) hL CF hX hbl hS hl (ad1 i) (by omega) (by decide) dL_law_400 dL_law_401 dL_law_402 dL_law_403 dL_law_404 ?_
  refine ldA (pc := 405) (k := 2) hL CF hX hbl hS hl (ad2 i) (by omega) (by decide) dL_law_405 dL_law_406 dL_law_407 dL_law_408 dL_law_409 ?_
  refine kVI (n := 2) (As := [.int (xs (i + 1)), .int (xs (i + 2))]) (rest := []) CF hl hK hP hD hS hA c1 gL_law_X3_mends rfl dL_law_410 (by decide +kernel) ⟨⟨rfl, rfl⟩, ⟨Nat.le_of_ble_eq_true rfl, Nat.le_of_ble_eq_true rfl⟩, Nat.le_of_ble_eq_true rfl, Nat.le_of_ble_eq_true rfl⟩ (JN.appL m1) 0 g1 ⟨rfl, rfl⟩ rfl rfl (Nat.le_of_ble_eq_true rfl) (fun H locs hP hD hS => ?_)
  refine lv_aload_n hx hb dL_law_413 rfl (lv_at hl 2 rfl) ?_
  refine ldA (pc := 414) (k := 1) hL CF hX hbl hS hl (ad1 i) (by omega) (by decide) dL_law_414 dL_law_415 dL_law_416 dL_law_417 dL_law_418 ?_
  refine ldA (pc := 419) (k := 2) hL CF hX hbl hS hl (ad2 i) (by omega) (by decide) dL_law_419 dL_law_420 dL_law_421 dL_law_422 dL_law_423 ?_
  refine kVI (n := 2) (As := [.int (xs (i + 1)), .int (xs (i + 2))]) (rest := [.int r]) CF hl hK hP hD hS hA c2 gL_law_X4_mends rfl dL_law_424 (by decide +kernel) ⟨⟨rfl, rfl⟩, ⟨Nat.le_of_ble_eq_true rfl, Nat.le_of_ble_eq_true rfl⟩, Nat.le_of_ble_eq_true rfl, Nat.le_of_ble_eq_true rfl⟩ (JN.appR m2) wx1.length g2 ⟨rfl, rfl⟩ rfl rfl (Nat.le_of_ble_eq_true rfl) (fun H locs hP hD hS => ?_)
  exact lv_icmp_eq (tgt := 1260) hx hb dL_law_427 (by decide) (fun _ => kk wx1 wm1 H locs hI1 hP hD hS) (fun h => absurd rfl h)
set_option maxRecDepth 100000 in
theorem lc_wears {p : Program} {l : Launch} {e : Env} {s : State} {m : MethodId} {below : List Frame} {meth : Method} {c : Code} {D : va_G} {cI : ClassId} {b L : Nat} {xs : Nat → Int32} {a bb : Nat → Nat} {wx wm : va_W} {H : Heap} {locs : List Loc} {ls : Array Slot} {i : Nat} (hL : L ≤ 2560) (CF : CallFix p m c cL_law 4 s #[Value.ref b] wsL_law RL) (hX : va_X b L xs s s.heap) (hbl : b < s.heap.size) (hK : va_K D vwCl [(cI, .int)] s) (hI : IW a bb cI wx wm) (hP : va_P D vwCl (wx ++ wm) H) (hD : va_D (fun q : Nat => s.heap.size ≤ q) (wx ++ wm)) (hS : va_S (fun q : Nat => s.heap.size ≤ q) s.heap H locs) (hl : lv_has ls 4 [(0, .ref b), (1, .ref (a 0)), (2, .ref (bb 0)), (3, .int (nI i))]) (hi5 : i + 5 ≤ L)
    (kk : ∀ (wx1 wm1 : va_W) (H1 : Heap) (locs1 : List Loc), IW a bb cI wx1 wm1 → va_P D vwCl (wx1 ++ wm1) H1 → va_D (fun q : Nat => s.heap.size ≤ q) (wx1 ++ wm1) → va_S (fun q : Nat => s.heap.size ≤ q) s.heap H1 locs1 → W p l e room_1 s m #[Value.ref b] below meth c H1 locs1 44 1382 (lw_Z below #[Value.ref b] s) (F0 m 1260 ls [])) : W p l e room_1 s m #[Value.ref b] below meth c H locs 44 1382 (lw_Z below #[Value.ref b] s) (F0 m 432 ls []) := by
  obtain ⟨hx, hb, hml, hown, hts⟩ := id CF
  have hA : ∀ q : Nat, s.heap.size ≤ q → (fun q : Nat => s.heap.size ≤ q) q := fun _ h => h
  obtain ⟨wx1, wm1, r, c1, c2, hI1, m1, m2⟩ := p_wears l D hI (xs (i + 1)) (xs (i + 2))
  obtain ⟨f1, g1⟩ := hI.x0 wm
  obtain ⟨f2, g2⟩ := hI.m0 wx1
  refine lv_aload_n hx hb dL_law_432 rfl (lv_at hl 1 rfl) ?_
  refine ldA (pc := 433) (k := 1) hL CF hX hbl hS hl (ad1 i) (by omega) (by decide) dL_law_433 dL_law_434 dL_law_435 dL_law_436 dL_law_437 ?_
  refine ldA (pc := 438) (k := 2) hL CF hX hbl hS hl (ad2 i) (by omega) (by decide) dL_law_438 dL_law_439 dL_law_440 dL_law_441 dL_law_442 ?_
  refine kVI (n := 2) (As := [.int (xs (i + 1)), .int (xs (i + 2))]) (rest := []) CF hl hK hP hD hS hA c1 gL_law_X3_wears rfl dL_law_443 (by decide +kernel) ⟨⟨rfl, rfl⟩, ⟨Nat.le_of_ble_eq_true rfl, Nat.le_of_ble_eq_true rfl⟩, Nat.le_of_ble_eq_true rfl, Nat.le_of_ble_eq_true rfl⟩ (JN.appL m1) 0 g1 ⟨rfl, rfl⟩ rfl rfl (Nat.le_of_ble_eq_true rfl) (fun H locs hP hD hS => ?_)
  refine lv_aload_n hx hb dL_law_446 rfl (lv_at hl 2 rfl) ?_
  refine ldA (pc := 447) (k := 1) hL CF hX hbl hS hl (ad1 i) (by omega) (by decide) dL_law_447 dL_law_448 dL_law_449 dL_law_450 dL_law_451 ?_
  refine ldA (pc := 452) (k := 2) hL CF hX hbl hS hl (ad2 i) (by omega) (by decide) dL_law_452 dL_law_453 dL_law_454 dL_law_455 dL_law_456 ?_
  refine kVI (n := 2) (As := [.int (xs (i + 1)), .int (xs (i + 2))]) (rest := [.int r]) CF hl hK hP hD hS hA c2 gL_law_X4_wears rfl dL_law_457 (by decide +kernel) ⟨⟨rfl, rfl⟩, ⟨Nat.le_of_ble_eq_true rfl, Nat.le_of_ble_eq_true rfl⟩, Nat.le_of_ble_eq_true rfl, Nat.le_of_ble_eq_true rfl⟩ (JN.appR m2) wx1.length g2 ⟨rfl, rfl⟩ rfl rfl (Nat.le_of_ble_eq_true rfl) (fun H locs hP hD hS => ?_)
  exact lv_icmp_eq (tgt := 1260) hx hb dL_law_460 (by decide) (fun _ => kk wx1 wm1 H locs hI1 hP hD hS) (fun h => absurd rfl h)
set_option maxRecDepth 100000 in
theorem lc_skill {p : Program} {l : Launch} {e : Env} {s : State} {m : MethodId} {below : List Frame} {meth : Method} {c : Code} {D : va_G} {cI : ClassId} {b L : Nat} {xs : Nat → Int32} {a bb : Nat → Nat} {wx wm : va_W} {H : Heap} {locs : List Loc} {ls : Array Slot} {i : Nat} (hL : L ≤ 2560) (CF : CallFix p m c cL_law 4 s #[Value.ref b] wsL_law RL) (hX : va_X b L xs s s.heap) (hbl : b < s.heap.size) (hK : va_K D vwCl [(cI, .int)] s) (hI : IW a bb cI wx wm) (hP : va_P D vwCl (wx ++ wm) H) (hD : va_D (fun q : Nat => s.heap.size ≤ q) (wx ++ wm)) (hS : va_S (fun q : Nat => s.heap.size ≤ q) s.heap H locs) (hl : lv_has ls 4 [(0, .ref b), (1, .ref (a 0)), (2, .ref (bb 0)), (3, .int (nI i))]) (hi5 : i + 5 ≤ L)
    (kk : ∀ (wx1 wm1 : va_W) (H1 : Heap) (locs1 : List Loc), IW a bb cI wx1 wm1 → va_P D vwCl (wx1 ++ wm1) H1 → va_D (fun q : Nat => s.heap.size ≤ q) (wx1 ++ wm1) → va_S (fun q : Nat => s.heap.size ≤ q) s.heap H1 locs1 → W p l e room_1 s m #[Value.ref b] below meth c H1 locs1 44 1382 (lw_Z below #[Value.ref b] s) (F0 m 1260 ls [])) : W p l e room_1 s m #[Value.ref b] below meth c H locs 44 1382 (lw_Z below #[Value.ref b] s) (F0 m 465 ls []) := by
  obtain ⟨hx, hb, hml, hown, hts⟩ := id CF
  have hA : ∀ q : Nat, s.heap.size ≤ q → (fun q : Nat => s.heap.size ≤ q) q := fun _ h => h
  obtain ⟨wx1, wm1, r, c1, c2, hI1, m1, m2⟩ := p_skill l D hI (xs (i + 1)) (xs (i + 2))
  obtain ⟨f1, g1⟩ := hI.x0 wm
  obtain ⟨f2, g2⟩ := hI.m0 wx1
  refine lv_aload_n hx hb dL_law_465 rfl (lv_at hl 1 rfl) ?_
  refine ldA (pc := 466) (k := 1) hL CF hX hbl hS hl (ad1 i) (by omega) (by decide) dL_law_466 dL_law_467 dL_law_468 dL_law_469 dL_law_470 ?_
  refine ldA (pc := 471) (k := 2) hL CF hX hbl hS hl (ad2 i) (by omega) (by decide) dL_law_471 dL_law_472 dL_law_473 dL_law_474 dL_law_475 ?_
  refine kVI (n := 2) (As := [.int (xs (i + 1)), .int (xs (i + 2))]) (rest := []) CF hl hK hP hD hS hA c1 gL_law_X3_skill rfl dL_law_476 (by decide +kernel) ⟨⟨rfl, rfl⟩, ⟨Nat.le_of_ble_eq_true rfl, Nat.le_of_ble_eq_true rfl⟩, Nat.le_of_ble_eq_true rfl, Nat.le_of_ble_eq_true rfl⟩ (JN.appL m1) 0 g1 ⟨rfl, rfl⟩ rfl rfl (Nat.le_of_ble_eq_true rfl) (fun H locs hP hD hS => ?_)
  refine lv_aload_n hx hb dL_law_479 rfl (lv_at hl 2 rfl) ?_
  refine ldA (pc := 480) (k := 1) hL CF hX hbl hS hl (ad1 i) (by omega) (by decide) dL_law_480 dL_law_481 dL_law_482 dL_law_483 dL_law_484 ?_
  refine ldA (pc := 485) (k := 2) hL CF hX hbl hS hl (ad2 i) (by omega) (by decide) dL_law_485 dL_law_486 dL_law_487 dL_law_488 dL_law_489 ?_
  refine kVI (n := 2) (As := [.int (xs (i + 1)), .int (xs (i + 2))]) (rest := [.int r]) CF hl hK hP hD hS hA c2 gL_law_X4_skill rfl dL_law_490 (by decide +kernel) ⟨⟨rfl, rfl⟩, ⟨Nat.le_of_ble_eq_true rfl, Nat.le_of_ble_eq_true rfl⟩, Nat.le_of_ble_eq_true rfl, Nat.le_of_ble_eq_true rfl⟩ (JN.appR m2) wx1.length g2 ⟨rfl, rfl⟩ rfl rfl (Nat.le_of_ble_eq_true rfl) (fun H locs hP hD hS => ?_)
  exact lv_icmp_eq (tgt := 1260) hx hb dL_law_493 (by decide) (fun _ => kk wx1 wm1 H locs hI1 hP hD hS) (fun h => absurd rfl h)
set_option maxRecDepth 100000 in
theorem lc_turn {p : Program} {l : Launch} {e : Env} {s : State} {m : MethodId} {below : List Frame} {meth : Method} {c : Code} {D : va_G} {cI : ClassId} {b L : Nat} {xs : Nat → Int32} {a bb : Nat → Nat} {wx wm : va_W} {H : Heap} {locs : List Loc} {ls : Array Slot} {i : Nat} (hL : L ≤ 2560) (CF : CallFix p m c cL_law 4 s #[Value.ref b] wsL_law RL) (hX : va_X b L xs s s.heap) (hbl : b < s.heap.size) (hK : va_K D vwCl [(cI, .int)] s) (hI : IW a bb cI wx wm) (hP : va_P D vwCl (wx ++ wm) H) (hD : va_D (fun q : Nat => s.heap.size ≤ q) (wx ++ wm)) (hS : va_S (fun q : Nat => s.heap.size ≤ q) s.heap H locs) (hl : lv_has ls 4 [(0, .ref b), (1, .ref (a 0)), (2, .ref (bb 0)), (3, .int (nI i))]) (hi5 : i + 5 ≤ L)
    (kk : ∀ (wx1 wm1 : va_W) (H1 : Heap) (locs1 : List Loc), IW a bb cI wx1 wm1 → va_P D vwCl (wx1 ++ wm1) H1 → va_D (fun q : Nat => s.heap.size ≤ q) (wx1 ++ wm1) → va_S (fun q : Nat => s.heap.size ≤ q) s.heap H1 locs1 → W p l e room_1 s m #[Value.ref b] below meth c H1 locs1 44 1382 (lw_Z below #[Value.ref b] s) (F0 m 1260 ls [])) : W p l e room_1 s m #[Value.ref b] below meth c H locs 44 1382 (lw_Z below #[Value.ref b] s) (F0 m 498 ls []) := by
  obtain ⟨hx, hb, hml, hown, hts⟩ := id CF
  have hA : ∀ q : Nat, s.heap.size ≤ q → (fun q : Nat => s.heap.size ≤ q) q := fun _ h => h
  obtain ⟨wx1, wm1, r, c1, c2, hI1, m1, m2⟩ := p_turn l D hI (xs (i + 1)) (xs (i + 2)) (xs (i + 3))
  obtain ⟨f1, g1⟩ := hI.x0 wm
  obtain ⟨f2, g2⟩ := hI.m0 wx1
  refine lv_aload_n hx hb dL_law_498 rfl (lv_at hl 1 rfl) ?_
  refine ldA (pc := 499) (k := 1) hL CF hX hbl hS hl (ad1 i) (by omega) (by decide) dL_law_499 dL_law_500 dL_law_501 dL_law_502 dL_law_503 ?_
  refine ldA (pc := 504) (k := 2) hL CF hX hbl hS hl (ad2 i) (by omega) (by decide) dL_law_504 dL_law_505 dL_law_506 dL_law_507 dL_law_508 ?_
  refine ldA (pc := 509) (k := 3) hL CF hX hbl hS hl (ad3 i) (by omega) (by decide) dL_law_509 dL_law_510 dL_law_511 dL_law_512 dL_law_513 ?_
  refine kVI (n := 3) (As := [.int (xs (i + 1)), .int (xs (i + 2)), .int (xs (i + 3))]) (rest := []) CF hl hK hP hD hS hA c1 gL_law_X3_turn rfl dL_law_514 (by decide +kernel) ⟨⟨rfl, rfl⟩, ⟨Nat.le_of_ble_eq_true rfl, Nat.le_of_ble_eq_true rfl⟩, Nat.le_of_ble_eq_true rfl, Nat.le_of_ble_eq_true rfl⟩ (JN.appL m1) 0 g1 ⟨rfl, rfl⟩ rfl rfl (Nat.le_of_ble_eq_true rfl) (fun H locs hP hD hS => ?_)
  refine lv_aload_n hx hb dL_law_517 rfl (lv_at hl 2 rfl) ?_
  refine ldA (pc := 518) (k := 1) hL CF hX hbl hS hl (ad1 i) (by omega) (by decide) dL_law_518 dL_law_519 dL_law_520 dL_law_521 dL_law_522 ?_
  refine ldA (pc := 523) (k := 2) hL CF hX hbl hS hl (ad2 i) (by omega) (by decide) dL_law_523 dL_law_524 dL_law_525 dL_law_526 dL_law_527 ?_
  refine ldA (pc := 528) (k := 3) hL CF hX hbl hS hl (ad3 i) (by omega) (by decide) dL_law_528 dL_law_529 dL_law_530 dL_law_531 dL_law_532 ?_
  refine kVI (n := 3) (As := [.int (xs (i + 1)), .int (xs (i + 2)), .int (xs (i + 3))]) (rest := [.int r]) CF hl hK hP hD hS hA c2 gL_law_X4_turn rfl dL_law_533 (by decide +kernel) ⟨⟨rfl, rfl⟩, ⟨Nat.le_of_ble_eq_true rfl, Nat.le_of_ble_eq_true rfl⟩, Nat.le_of_ble_eq_true rfl, Nat.le_of_ble_eq_true rfl⟩ (JN.appR m2) wx1.length g2 ⟨rfl, rfl⟩ rfl rfl (Nat.le_of_ble_eq_true rfl) (fun H locs hP hD hS => ?_)
  exact lv_icmp_eq (tgt := 1260) hx hb dL_law_536 (by decide) (fun _ => kk wx1 wm1 H locs hI1 hP hD hS) (fun h => absurd rfl h)
set_option maxRecDepth 100000 in
theorem lc_days {p : Program} {l : Launch} {e : Env} {s : State} {m : MethodId} {below : List Frame} {meth : Method} {c : Code} {D : va_G} {cI : ClassId} {b L : Nat} {xs : Nat → Int32} {a bb : Nat → Nat} {wx wm : va_W} {H : Heap} {locs : List Loc} {ls : Array Slot} {i : Nat} (hL : L ≤ 2560) (CF : CallFix p m c cL_law 4 s #[Value.ref b] wsL_law RL) (hX : va_X b L xs s s.heap) (hbl : b < s.heap.size) (hK : va_K D vwCl [(cI, .int)] s) (hI : IW a bb cI wx wm) (hP : va_P D vwCl (wx ++ wm) H) (hD : va_D (fun q : Nat => s.heap.size ≤ q) (wx ++ wm)) (hS : va_S (fun q : Nat => s.heap.size ≤ q) s.heap H locs) (hl : lv_has ls 4 [(0, .ref b), (1, .ref (a 0)), (2, .ref (bb 0)), (3, .int (nI i))]) (hi5 : i + 5 ≤ L)
    (kk : ∀ (wx1 wm1 : va_W) (H1 : Heap) (locs1 : List Loc), IW a bb cI wx1 wm1 → va_P D vwCl (wx1 ++ wm1) H1 → va_D (fun q : Nat => s.heap.size ≤ q) (wx1 ++ wm1) → va_S (fun q : Nat => s.heap.size ≤ q) s.heap H1 locs1 → W p l e room_1 s m #[Value.ref b] below meth c H1 locs1 44 1382 (lw_Z below #[Value.ref b] s) (F0 m 1260 ls [])) : W p l e room_1 s m #[Value.ref b] below meth c H locs 44 1382 (lw_Z below #[Value.ref b] s) (F0 m 541 ls []) := by
  obtain ⟨hx, hb, hml, hown, hts⟩ := id CF
  have hA : ∀ q : Nat, s.heap.size ≤ q → (fun q : Nat => s.heap.size ≤ q) q := fun _ h => h
  obtain ⟨wx1, wm1, r, c1, c2, hI1, m1, m2⟩ := p_days l D hI (xs (i + 1))
  obtain ⟨f1, g1⟩ := hI.x0 wm
  obtain ⟨f2, g2⟩ := hI.m0 wx1
  refine lv_aload_n hx hb dL_law_541 rfl (lv_at hl 1 rfl) ?_
  refine ldA (pc := 542) (k := 1) hL CF hX hbl hS hl (ad1 i) (by omega) (by decide) dL_law_542 dL_law_543 dL_law_544 dL_law_545 dL_law_546 ?_
  refine kVI (n := 1) (As := [.int (xs (i + 1))]) (rest := []) CF hl hK hP hD hS hA c1 gL_law_X3_days rfl dL_law_547 (by decide +kernel) ⟨⟨rfl, rfl⟩, ⟨Nat.le_of_ble_eq_true rfl, Nat.le_of_ble_eq_true rfl⟩, Nat.le_of_ble_eq_true rfl, Nat.le_of_ble_eq_true rfl⟩ (JN.appL m1) 0 g1 ⟨rfl, rfl⟩ rfl rfl (Nat.le_of_ble_eq_true rfl) (fun H locs hP hD hS => ?_)
  refine lv_aload_n hx hb dL_law_550 rfl (lv_at hl 2 rfl) ?_
  refine ldA (pc := 551) (k := 1) hL CF hX hbl hS hl (ad1 i) (by omega) (by decide) dL_law_551 dL_law_552 dL_law_553 dL_law_554 dL_law_555 ?_
  refine kVI (n := 1) (As := [.int (xs (i + 1))]) (rest := [.int r]) CF hl hK hP hD hS hA c2 gL_law_X4_days rfl dL_law_556 (by decide +kernel) ⟨⟨rfl, rfl⟩, ⟨Nat.le_of_ble_eq_true rfl, Nat.le_of_ble_eq_true rfl⟩, Nat.le_of_ble_eq_true rfl, Nat.le_of_ble_eq_true rfl⟩ (JN.appR m2) wx1.length g2 ⟨rfl, rfl⟩ rfl rfl (Nat.le_of_ble_eq_true rfl) (fun H locs hP hD hS => ?_)
  exact lv_icmp_eq (tgt := 1260) hx hb dL_law_559 (by decide) (fun _ => kk wx1 wm1 H locs hI1 hP hD hS) (fun h => absurd rfl h)
set_option maxRecDepth 100000 in
theorem lc_wholeThen {p : Program} {l : Launch} {e : Env} {s : State} {m : MethodId} {below : List Frame} {meth : Method} {c : Code} {D : va_G} {cI : ClassId} {b L : Nat} {xs : Nat → Int32} {a bb : Nat → Nat} {wx wm : va_W} {H : Heap} {locs : List Loc} {ls : Array Slot} {i : Nat} (hL : L ≤ 2560) (CF : CallFix p m c cL_law 4 s #[Value.ref b] wsL_law RL) (hX : va_X b L xs s s.heap) (hbl : b < s.heap.size) (hK : va_K D vwCl [(cI, .int)] s) (hI : IW a bb cI wx wm) (hP : va_P D vwCl (wx ++ wm) H) (hD : va_D (fun q : Nat => s.heap.size ≤ q) (wx ++ wm)) (hS : va_S (fun q : Nat => s.heap.size ≤ q) s.heap H locs) (hl : lv_has ls 4 [(0, .ref b), (1, .ref (a 0)), (2, .ref (bb 0)), (3, .int (nI i))]) (hi5 : i + 5 ≤ L)
    (kk : ∀ (wx1 wm1 : va_W) (H1 : Heap) (locs1 : List Loc), IW a bb cI wx1 wm1 → va_P D vwCl (wx1 ++ wm1) H1 → va_D (fun q : Nat => s.heap.size ≤ q) (wx1 ++ wm1) → va_S (fun q : Nat => s.heap.size ≤ q) s.heap H1 locs1 → W p l e room_1 s m #[Value.ref b] below meth c H1 locs1 44 1382 (lw_Z below #[Value.ref b] s) (F0 m 1260 ls [])) : W p l e room_1 s m #[Value.ref b] below meth c H locs 44 1382 (lw_Z below #[Value.ref b] s) (F0 m 564 ls []) := by
  obtain ⟨hx, hb, hml, hown, hts⟩ := id CF
  have hA : ∀ q : Nat, s.heap.size ≤ q → (fun q : Nat => s.heap.size ≤ q) q := fun _ h => h
  obtain ⟨wx1, wm1, r, c1, c2, hI1, m1, m2⟩ := p_wholeThen l D hI (xs (i + 1))
  obtain ⟨f1, g1⟩ := hI.x0 wm
  obtain ⟨f2, g2⟩ := hI.m0 wx1
  refine lv_aload_n hx hb dL_law_564 rfl (lv_at hl 1 rfl) ?_
  refine ldA (pc := 565) (k := 1) hL CF hX hbl hS hl (ad1 i) (by omega) (by decide) dL_law_565 dL_law_566 dL_law_567 dL_law_568 dL_law_569 ?_
  refine kVI (n := 1) (As := [.int (xs (i + 1))]) (rest := []) CF hl hK hP hD hS hA c1 gL_law_X3_wholeThen rfl dL_law_570 (by decide +kernel) ⟨⟨rfl, rfl⟩, ⟨Nat.le_of_ble_eq_true rfl, Nat.le_of_ble_eq_true rfl⟩, Nat.le_of_ble_eq_true rfl, Nat.le_of_ble_eq_true rfl⟩ (JN.appL m1) 0 g1 ⟨rfl, rfl⟩ rfl rfl (Nat.le_of_ble_eq_true rfl) (fun H locs hP hD hS => ?_)
  refine lv_aload_n hx hb dL_law_573 rfl (lv_at hl 2 rfl) ?_
  refine ldA (pc := 574) (k := 1) hL CF hX hbl hS hl (ad1 i) (by omega) (by decide) dL_law_574 dL_law_575 dL_law_576 dL_law_577 dL_law_578 ?_
  refine kVI (n := 1) (As := [.int (xs (i + 1))]) (rest := [.int r]) CF hl hK hP hD hS hA c2 gL_law_X4_wholeThen rfl dL_law_579 (by decide +kernel) ⟨⟨rfl, rfl⟩, ⟨Nat.le_of_ble_eq_true rfl, Nat.le_of_ble_eq_true rfl⟩, Nat.le_of_ble_eq_true rfl, Nat.le_of_ble_eq_true rfl⟩ (JN.appR m2) wx1.length g2 ⟨rfl, rfl⟩ rfl rfl (Nat.le_of_ble_eq_true rfl) (fun H locs hP hD hS => ?_)
  exact lv_icmp_eq (tgt := 1260) hx hb dL_law_582 (by decide) (fun _ => kk wx1 wm1 H locs hI1 hP hD hS) (fun h => absurd rfl h)
set_option maxRecDepth 100000 in
theorem lc_brokenThen {p : Program} {l : Launch} {e : Env} {s : State} {m : MethodId} {below : List Frame} {meth : Method} {c : Code} {D : va_G} {cI : ClassId} {b L : Nat} {xs : Nat → Int32} {a bb : Nat → Nat} {wx wm : va_W} {H : Heap} {locs : List Loc} {ls : Array Slot} {i : Nat} (hL : L ≤ 2560) (CF : CallFix p m c cL_law 4 s #[Value.ref b] wsL_law RL) (hX : va_X b L xs s s.heap) (hbl : b < s.heap.size) (hK : va_K D vwCl [(cI, .int)] s) (hI : IW a bb cI wx wm) (hP : va_P D vwCl (wx ++ wm) H) (hD : va_D (fun q : Nat => s.heap.size ≤ q) (wx ++ wm)) (hS : va_S (fun q : Nat => s.heap.size ≤ q) s.heap H locs) (hl : lv_has ls 4 [(0, .ref b), (1, .ref (a 0)), (2, .ref (bb 0)), (3, .int (nI i))]) (hi5 : i + 5 ≤ L)
    (kk : ∀ (wx1 wm1 : va_W) (H1 : Heap) (locs1 : List Loc), IW a bb cI wx1 wm1 → va_P D vwCl (wx1 ++ wm1) H1 → va_D (fun q : Nat => s.heap.size ≤ q) (wx1 ++ wm1) → va_S (fun q : Nat => s.heap.size ≤ q) s.heap H1 locs1 → W p l e room_1 s m #[Value.ref b] below meth c H1 locs1 44 1382 (lw_Z below #[Value.ref b] s) (F0 m 1260 ls [])) : W p l e room_1 s m #[Value.ref b] below meth c H locs 44 1382 (lw_Z below #[Value.ref b] s) (F0 m 587 ls []) := by
  obtain ⟨hx, hb, hml, hown, hts⟩ := id CF
  have hA : ∀ q : Nat, s.heap.size ≤ q → (fun q : Nat => s.heap.size ≤ q) q := fun _ h => h
  obtain ⟨wx1, wm1, r, c1, c2, hI1, m1, m2⟩ := p_brokenThen l D hI (xs (i + 1)) (xs (i + 2))
  obtain ⟨f1, g1⟩ := hI.x0 wm
  obtain ⟨f2, g2⟩ := hI.m0 wx1
  refine lv_aload_n hx hb dL_law_587 rfl (lv_at hl 1 rfl) ?_
  refine ldA (pc := 588) (k := 1) hL CF hX hbl hS hl (ad1 i) (by omega) (by decide) dL_law_588 dL_law_589 dL_law_590 dL_law_591 dL_law_592 ?_
  refine ldA (pc := 593) (k := 2) hL CF hX hbl hS hl (ad2 i) (by omega) (by decide) dL_law_593 dL_law_594 dL_law_595 dL_law_596 dL_law_597 ?_
  refine kVI (n := 2) (As := [.int (xs (i + 1)), .int (xs (i + 2))]) (rest := []) CF hl hK hP hD hS hA c1 gL_law_X3_brokenThen rfl dL_law_598 (by decide +kernel) ⟨⟨rfl, rfl⟩, ⟨Nat.le_of_ble_eq_true rfl, Nat.le_of_ble_eq_true rfl⟩, Nat.le_of_ble_eq_true rfl, Nat.le_of_ble_eq_true rfl⟩ (JN.appL m1) 0 g1 ⟨rfl, rfl⟩ rfl rfl (Nat.le_of_ble_eq_true rfl) (fun H locs hP hD hS => ?_)
  refine lv_aload_n hx hb dL_law_601 rfl (lv_at hl 2 rfl) ?_
  refine ldA (pc := 602) (k := 1) hL CF hX hbl hS hl (ad1 i) (by omega) (by decide) dL_law_602 dL_law_603 dL_law_604 dL_law_605 dL_law_606 ?_
  refine ldA (pc := 607) (k := 2) hL CF hX hbl hS hl (ad2 i) (by omega) (by decide) dL_law_607 dL_law_608 dL_law_609 dL_law_610 dL_law_611 ?_
  refine kVI (n := 2) (As := [.int (xs (i + 1)), .int (xs (i + 2))]) (rest := [.int r]) CF hl hK hP hD hS hA c2 gL_law_X4_brokenThen rfl dL_law_612 (by decide +kernel) ⟨⟨rfl, rfl⟩, ⟨Nat.le_of_ble_eq_true rfl, Nat.le_of_ble_eq_true rfl⟩, Nat.le_of_ble_eq_true rfl, Nat.le_of_ble_eq_true rfl⟩ (JN.appR m2) wx1.length g2 ⟨rfl, rfl⟩ rfl rfl (Nat.le_of_ble_eq_true rfl) (fun H locs hP hD hS => ?_)
  exact lv_icmp_eq (tgt := 1260) hx hb dL_law_615 (by decide) (fun _ => kk wx1 wm1 H locs hI1 hP hD hS) (fun h => absurd rfl h)
set_option maxRecDepth 100000 in
theorem lc_mendedThen {p : Program} {l : Launch} {e : Env} {s : State} {m : MethodId} {below : List Frame} {meth : Method} {c : Code} {D : va_G} {cI : ClassId} {b L : Nat} {xs : Nat → Int32} {a bb : Nat → Nat} {wx wm : va_W} {H : Heap} {locs : List Loc} {ls : Array Slot} {i : Nat} (hL : L ≤ 2560) (CF : CallFix p m c cL_law 4 s #[Value.ref b] wsL_law RL) (hX : va_X b L xs s s.heap) (hbl : b < s.heap.size) (hK : va_K D vwCl [(cI, .int)] s) (hI : IW a bb cI wx wm) (hP : va_P D vwCl (wx ++ wm) H) (hD : va_D (fun q : Nat => s.heap.size ≤ q) (wx ++ wm)) (hS : va_S (fun q : Nat => s.heap.size ≤ q) s.heap H locs) (hl : lv_has ls 4 [(0, .ref b), (1, .ref (a 0)), (2, .ref (bb 0)), (3, .int (nI i))]) (hi5 : i + 5 ≤ L)
    (kk : ∀ (wx1 wm1 : va_W) (H1 : Heap) (locs1 : List Loc), IW a bb cI wx1 wm1 → va_P D vwCl (wx1 ++ wm1) H1 → va_D (fun q : Nat => s.heap.size ≤ q) (wx1 ++ wm1) → va_S (fun q : Nat => s.heap.size ≤ q) s.heap H1 locs1 → W p l e room_1 s m #[Value.ref b] below meth c H1 locs1 44 1382 (lw_Z below #[Value.ref b] s) (F0 m 1260 ls [])) : W p l e room_1 s m #[Value.ref b] below meth c H locs 44 1382 (lw_Z below #[Value.ref b] s) (F0 m 620 ls []) := by
  obtain ⟨hx, hb, hml, hown, hts⟩ := id CF
  have hA : ∀ q : Nat, s.heap.size ≤ q → (fun q : Nat => s.heap.size ≤ q) q := fun _ h => h
  obtain ⟨wx1, wm1, r, c1, c2, hI1, m1, m2⟩ := p_mendedThen l D hI (xs (i + 1))
  obtain ⟨f1, g1⟩ := hI.x0 wm
  obtain ⟨f2, g2⟩ := hI.m0 wx1
  refine lv_aload_n hx hb dL_law_620 rfl (lv_at hl 1 rfl) ?_
  refine ldA (pc := 621) (k := 1) hL CF hX hbl hS hl (ad1 i) (by omega) (by decide) dL_law_621 dL_law_622 dL_law_623 dL_law_624 dL_law_625 ?_
  refine kVI (n := 1) (As := [.int (xs (i + 1))]) (rest := []) CF hl hK hP hD hS hA c1 gL_law_X3_mendedThen rfl dL_law_626 (by decide +kernel) ⟨⟨rfl, rfl⟩, ⟨Nat.le_of_ble_eq_true rfl, Nat.le_of_ble_eq_true rfl⟩, Nat.le_of_ble_eq_true rfl, Nat.le_of_ble_eq_true rfl⟩ (JN.appL m1) 0 g1 ⟨rfl, rfl⟩ rfl rfl (Nat.le_of_ble_eq_true rfl) (fun H locs hP hD hS => ?_)
  refine lv_aload_n hx hb dL_law_629 rfl (lv_at hl 2 rfl) ?_
  refine ldA (pc := 630) (k := 1) hL CF hX hbl hS hl (ad1 i) (by omega) (by decide) dL_law_630 dL_law_631 dL_law_632 dL_law_633 dL_law_634 ?_
  refine kVI (n := 1) (As := [.int (xs (i + 1))]) (rest := [.int r]) CF hl hK hP hD hS hA c2 gL_law_X4_mendedThen rfl dL_law_635 (by decide +kernel) ⟨⟨rfl, rfl⟩, ⟨Nat.le_of_ble_eq_true rfl, Nat.le_of_ble_eq_true rfl⟩, Nat.le_of_ble_eq_true rfl, Nat.le_of_ble_eq_true rfl⟩ (JN.appR m2) wx1.length g2 ⟨rfl, rfl⟩ rfl rfl (Nat.le_of_ble_eq_true rfl) (fun H locs hP hD hS => ?_)
  exact lv_icmp_eq (tgt := 1260) hx hb dL_law_638 (by decide) (fun _ => kk wx1 wm1 H locs hI1 hP hD hS) (fun h => absurd rfl h)
set_option maxRecDepth 100000 in
theorem lc_again {p : Program} {l : Launch} {e : Env} {s : State} {m : MethodId} {below : List Frame} {meth : Method} {c : Code} {D : va_G} {cI : ClassId} {b L : Nat} {xs : Nat → Int32} {a bb : Nat → Nat} {wx wm : va_W} {H : Heap} {locs : List Loc} {ls : Array Slot} {i : Nat} (hL : L ≤ 2560) (CF : CallFix p m c cL_law 4 s #[Value.ref b] wsL_law RL) (hX : va_X b L xs s s.heap) (hbl : b < s.heap.size) (hK : va_K D vwCl [(cI, .int)] s) (hI : IW a bb cI wx wm) (hP : va_P D vwCl (wx ++ wm) H) (hD : va_D (fun q : Nat => s.heap.size ≤ q) (wx ++ wm)) (hS : va_S (fun q : Nat => s.heap.size ≤ q) s.heap H locs) (hl : lv_has ls 4 [(0, .ref b), (1, .ref (a 0)), (2, .ref (bb 0)), (3, .int (nI i))]) (hi5 : i + 5 ≤ L)
    (kk : ∀ (wx1 wm1 : va_W) (H1 : Heap) (locs1 : List Loc), IW a bb cI wx1 wm1 → va_P D vwCl (wx1 ++ wm1) H1 → va_D (fun q : Nat => s.heap.size ≤ q) (wx1 ++ wm1) → va_S (fun q : Nat => s.heap.size ≤ q) s.heap H1 locs1 → W p l e room_1 s m #[Value.ref b] below meth c H1 locs1 44 1382 (lw_Z below #[Value.ref b] s) (F0 m 1260 ls [])) : W p l e room_1 s m #[Value.ref b] below meth c H locs 44 1382 (lw_Z below #[Value.ref b] s) (F0 m 643 ls []) := by
  obtain ⟨hx, hb, hml, hown, hts⟩ := id CF
  have hA : ∀ q : Nat, s.heap.size ≤ q → (fun q : Nat => s.heap.size ≤ q) q := fun _ h => h
  obtain ⟨wx1, wm1, r, c1, c2, hI1, m1, m2⟩ := p_again l D hI (xs (i + 1)) (xs (i + 2))
  obtain ⟨f1, g1⟩ := hI.x0 wm
  obtain ⟨f2, g2⟩ := hI.m0 wx1
  refine lv_aload_n hx hb dL_law_643 rfl (lv_at hl 1 rfl) ?_
  refine ldA (pc := 644) (k := 1) hL CF hX hbl hS hl (ad1 i) (by omega) (by decide) dL_law_644 dL_law_645 dL_law_646 dL_law_647 dL_law_648 ?_
  refine ldA (pc := 649) (k := 2) hL CF hX hbl hS hl (ad2 i) (by omega) (by decide) dL_law_649 dL_law_650 dL_law_651 dL_law_652 dL_law_653 ?_
  refine kVI (n := 2) (As := [.int (xs (i + 1)), .int (xs (i + 2))]) (rest := []) CF hl hK hP hD hS hA c1 gL_law_X3_again rfl dL_law_654 (by decide +kernel) ⟨⟨rfl, rfl⟩, ⟨Nat.le_of_ble_eq_true rfl, Nat.le_of_ble_eq_true rfl⟩, Nat.le_of_ble_eq_true rfl, Nat.le_of_ble_eq_true rfl⟩ (JN.appL m1) 0 g1 ⟨rfl, rfl⟩ rfl rfl (Nat.le_of_ble_eq_true rfl) (fun H locs hP hD hS => ?_)
  refine lv_aload_n hx hb dL_law_657 rfl (lv_at hl 2 rfl) ?_
  refine ldA (pc := 658) (k := 1) hL CF hX hbl hS hl (ad1 i) (by omega) (by decide) dL_law_658 dL_law_659 dL_law_660 dL_law_661 dL_law_662 ?_
  refine ldA (pc := 663) (k := 2) hL CF hX hbl hS hl (ad2 i) (by omega) (by decide) dL_law_663 dL_law_664 dL_law_665 dL_law_666 dL_law_667 ?_
  refine kVI (n := 2) (As := [.int (xs (i + 1)), .int (xs (i + 2))]) (rest := [.int r]) CF hl hK hP hD hS hA c2 gL_law_X4_again rfl dL_law_668 (by decide +kernel) ⟨⟨rfl, rfl⟩, ⟨Nat.le_of_ble_eq_true rfl, Nat.le_of_ble_eq_true rfl⟩, Nat.le_of_ble_eq_true rfl, Nat.le_of_ble_eq_true rfl⟩ (JN.appR m2) wx1.length g2 ⟨rfl, rfl⟩ rfl rfl (Nat.le_of_ble_eq_true rfl) (fun H locs hP hD hS => ?_)
  exact lv_icmp_eq (tgt := 1260) hx hb dL_law_671 (by decide) (fun _ => kk wx1 wm1 H locs hI1 hP hD hS) (fun h => absurd rfl h)
set_option maxRecDepth 100000 in
theorem lc_mourned {p : Program} {l : Launch} {e : Env} {s : State} {m : MethodId} {below : List Frame} {meth : Method} {c : Code} {D : va_G} {cI : ClassId} {b L : Nat} {xs : Nat → Int32} {a bb : Nat → Nat} {wx wm : va_W} {H : Heap} {locs : List Loc} {ls : Array Slot} {i : Nat} (hL : L ≤ 2560) (CF : CallFix p m c cL_law 4 s #[Value.ref b] wsL_law RL) (hX : va_X b L xs s s.heap) (hbl : b < s.heap.size) (hK : va_K D vwCl [(cI, .int)] s) (hI : IW a bb cI wx wm) (hP : va_P D vwCl (wx ++ wm) H) (hD : va_D (fun q : Nat => s.heap.size ≤ q) (wx ++ wm)) (hS : va_S (fun q : Nat => s.heap.size ≤ q) s.heap H locs) (hl : lv_has ls 4 [(0, .ref b), (1, .ref (a 0)), (2, .ref (bb 0)), (3, .int (nI i))]) (hi5 : i + 5 ≤ L)
    (kk : ∀ (wx1 wm1 : va_W) (H1 : Heap) (locs1 : List Loc), IW a bb cI wx1 wm1 → va_P D vwCl (wx1 ++ wm1) H1 → va_D (fun q : Nat => s.heap.size ≤ q) (wx1 ++ wm1) → va_S (fun q : Nat => s.heap.size ≤ q) s.heap H1 locs1 → W p l e room_1 s m #[Value.ref b] below meth c H1 locs1 44 1382 (lw_Z below #[Value.ref b] s) (F0 m 1260 ls [])) : W p l e room_1 s m #[Value.ref b] below meth c H locs 44 1382 (lw_Z below #[Value.ref b] s) (F0 m 676 ls []) := by
  obtain ⟨hx, hb, hml, hown, hts⟩ := id CF
  have hA : ∀ q : Nat, s.heap.size ≤ q → (fun q : Nat => s.heap.size ≤ q) q := fun _ h => h
  obtain ⟨wx1, wm1, r, c1, c2, hI1, m1, m2⟩ := p_mourned l D hI (xs (i + 1))
  obtain ⟨f1, g1⟩ := hI.x0 wm
  obtain ⟨f2, g2⟩ := hI.m0 wx1
  refine lv_aload_n hx hb dL_law_676 rfl (lv_at hl 1 rfl) ?_
  refine ldA (pc := 677) (k := 1) hL CF hX hbl hS hl (ad1 i) (by omega) (by decide) dL_law_677 dL_law_678 dL_law_679 dL_law_680 dL_law_681 ?_
  refine kVI (n := 1) (As := [.int (xs (i + 1))]) (rest := []) CF hl hK hP hD hS hA c1 gL_law_X3_mourned rfl dL_law_682 (by decide +kernel) ⟨⟨rfl, rfl⟩, ⟨Nat.le_of_ble_eq_true rfl, Nat.le_of_ble_eq_true rfl⟩, Nat.le_of_ble_eq_true rfl, Nat.le_of_ble_eq_true rfl⟩ (JN.appL m1) 0 g1 ⟨rfl, rfl⟩ rfl rfl (Nat.le_of_ble_eq_true rfl) (fun H locs hP hD hS => ?_)
  refine lv_aload_n hx hb dL_law_685 rfl (lv_at hl 2 rfl) ?_
  refine ldA (pc := 686) (k := 1) hL CF hX hbl hS hl (ad1 i) (by omega) (by decide) dL_law_686 dL_law_687 dL_law_688 dL_law_689 dL_law_690 ?_
  refine kVI (n := 1) (As := [.int (xs (i + 1))]) (rest := [.int r]) CF hl hK hP hD hS hA c2 gL_law_X4_mourned rfl dL_law_691 (by decide +kernel) ⟨⟨rfl, rfl⟩, ⟨Nat.le_of_ble_eq_true rfl, Nat.le_of_ble_eq_true rfl⟩, Nat.le_of_ble_eq_true rfl, Nat.le_of_ble_eq_true rfl⟩ (JN.appR m2) wx1.length g2 ⟨rfl, rfl⟩ rfl rfl (Nat.le_of_ble_eq_true rfl) (fun H locs hP hD hS => ?_)
  exact lv_icmp_eq (tgt := 1260) hx hb dL_law_694 (by decide) (fun _ => kk wx1 wm1 H locs hI1 hP hD hS) (fun h => absurd rfl h)
set_option maxRecDepth 100000 in
theorem lc_first {p : Program} {l : Launch} {e : Env} {s : State} {m : MethodId} {below : List Frame} {meth : Method} {c : Code} {D : va_G} {cI : ClassId} {b L : Nat} {xs : Nat → Int32} {a bb : Nat → Nat} {wx wm : va_W} {H : Heap} {locs : List Loc} {ls : Array Slot} {i : Nat} (hL : L ≤ 2560) (CF : CallFix p m c cL_law 4 s #[Value.ref b] wsL_law RL) (hX : va_X b L xs s s.heap) (hbl : b < s.heap.size) (hK : va_K D vwCl [(cI, .int)] s) (hI : IW a bb cI wx wm) (hP : va_P D vwCl (wx ++ wm) H) (hD : va_D (fun q : Nat => s.heap.size ≤ q) (wx ++ wm)) (hS : va_S (fun q : Nat => s.heap.size ≤ q) s.heap H locs) (hl : lv_has ls 4 [(0, .ref b), (1, .ref (a 0)), (2, .ref (bb 0)), (3, .int (nI i))]) (hi5 : i + 5 ≤ L)
    (kk : ∀ (wx1 wm1 : va_W) (H1 : Heap) (locs1 : List Loc), IW a bb cI wx1 wm1 → va_P D vwCl (wx1 ++ wm1) H1 → va_D (fun q : Nat => s.heap.size ≤ q) (wx1 ++ wm1) → va_S (fun q : Nat => s.heap.size ≤ q) s.heap H1 locs1 → W p l e room_1 s m #[Value.ref b] below meth c H1 locs1 44 1382 (lw_Z below #[Value.ref b] s) (F0 m 1260 ls [])) : W p l e room_1 s m #[Value.ref b] below meth c H locs 44 1382 (lw_Z below #[Value.ref b] s) (F0 m 699 ls []) := by
  obtain ⟨hx, hb, hml, hown, hts⟩ := id CF
  have hA : ∀ q : Nat, s.heap.size ≤ q → (fun q : Nat => s.heap.size ≤ q) q := fun _ h => h
  obtain ⟨wx1, wm1, r, c1, c2, hI1, m1, m2⟩ := p_first l D hI (xs (i + 1))
  obtain ⟨f1, g1⟩ := hI.x0 wm
  obtain ⟨f2, g2⟩ := hI.m0 wx1
  refine lv_aload_n hx hb dL_law_699 rfl (lv_at hl 1 rfl) ?_
  refine ldA (pc := 700) (k := 1) hL CF hX hbl hS hl (ad1 i) (by omega) (by decide) dL_law_700 dL_law_701 dL_law_702 dL_law_703 dL_law_704 ?_
  refine kVI (n := 1) (As := [.int (xs (i + 1))]) (rest := []) CF hl hK hP hD hS hA c1 gL_law_X3_first rfl dL_law_705 (by decide +kernel) ⟨⟨rfl, rfl⟩, ⟨Nat.le_of_ble_eq_true rfl, Nat.le_of_ble_eq_true rfl⟩, Nat.le_of_ble_eq_true rfl, Nat.le_of_ble_eq_true rfl⟩ (JN.appL m1) 0 g1 ⟨rfl, rfl⟩ rfl rfl (Nat.le_of_ble_eq_true rfl) (fun H locs hP hD hS => ?_)
  refine lv_aload_n hx hb dL_law_708 rfl (lv_at hl 2 rfl) ?_
  refine ldA (pc := 709) (k := 1) hL CF hX hbl hS hl (ad1 i) (by omega) (by decide) dL_law_709 dL_law_710 dL_law_711 dL_law_712 dL_law_713 ?_
  refine kVI (n := 1) (As := [.int (xs (i + 1))]) (rest := [.int r]) CF hl hK hP hD hS hA c2 gL_law_X4_first rfl dL_law_714 (by decide +kernel) ⟨⟨rfl, rfl⟩, ⟨Nat.le_of_ble_eq_true rfl, Nat.le_of_ble_eq_true rfl⟩, Nat.le_of_ble_eq_true rfl, Nat.le_of_ble_eq_true rfl⟩ (JN.appR m2) wx1.length g2 ⟨rfl, rfl⟩ rfl rfl (Nat.le_of_ble_eq_true rfl) (fun H locs hP hD hS => ?_)
  exact lv_icmp_eq (tgt := 1260) hx hb dL_law_717 (by decide) (fun _ => kk wx1 wm1 H locs hI1 hP hD hS) (fun h => absurd rfl h)
set_option maxRecDepth 100000 in
theorem lc_menders {p : Program} {l : Launch} {e : Env} {s : State} {m : MethodId} {below : List Frame} {meth : Method} {c : Code} {D : va_G} {cI : ClassId} {b L : Nat} {xs : Nat → Int32} {a bb : Nat → Nat} {wx wm : va_W} {H : Heap} {locs : List Loc} {ls : Array Slot} {i : Nat} (hL : L ≤ 2560) (CF : CallFix p m c cL_law 4 s #[Value.ref b] wsL_law RL) (hX : va_X b L xs s s.heap) (hbl : b < s.heap.size) (hK : va_K D vwCl [(cI, .int)] s) (hI : IW a bb cI wx wm) (hP : va_P D vwCl (wx ++ wm) H) (hD : va_D (fun q : Nat => s.heap.size ≤ q) (wx ++ wm)) (hS : va_S (fun q : Nat => s.heap.size ≤ q) s.heap H locs) (hl : lv_has ls 4 [(0, .ref b), (1, .ref (a 0)), (2, .ref (bb 0)), (3, .int (nI i))]) (hi5 : i + 5 ≤ L)
    (kk : ∀ (wx1 wm1 : va_W) (H1 : Heap) (locs1 : List Loc), IW a bb cI wx1 wm1 → va_P D vwCl (wx1 ++ wm1) H1 → va_D (fun q : Nat => s.heap.size ≤ q) (wx1 ++ wm1) → va_S (fun q : Nat => s.heap.size ≤ q) s.heap H1 locs1 → W p l e room_1 s m #[Value.ref b] below meth c H1 locs1 44 1382 (lw_Z below #[Value.ref b] s) (F0 m 1260 ls [])) : W p l e room_1 s m #[Value.ref b] below meth c H locs 44 1382 (lw_Z below #[Value.ref b] s) (F0 m 722 ls []) := by
  obtain ⟨hx, hb, hml, hown, hts⟩ := id CF
  have hA : ∀ q : Nat, s.heap.size ≤ q → (fun q : Nat => s.heap.size ≤ q) q := fun _ h => h
  obtain ⟨wx1, wm1, r, c1, c2, hI1, m1, m2⟩ := p_menders l D hI (xs (i + 1))
  obtain ⟨f1, g1⟩ := hI.x0 wm
  obtain ⟨f2, g2⟩ := hI.m0 wx1
  refine lv_aload_n hx hb dL_law_722 rfl (lv_at hl 1 rfl) ?_
  refine ldA (pc := 723) (k := 1) hL CF hX hbl hS hl (ad1 i) (by omega) (by decide) dL_law_723 dL_law_724 dL_law_725 dL_law_726 dL_law_727 ?_
  refine kVI (n := 1) (As := [.int (xs (i + 1))]) (rest := []) CF hl hK hP hD hS hA c1 gL_law_X3_menders rfl dL_law_728 (by decide +kernel) ⟨⟨rfl, rfl⟩, ⟨Nat.le_of_ble_eq_true rfl, Nat.le_of_ble_eq_true rfl⟩, Nat.le_of_ble_eq_true rfl, Nat.le_of_ble_eq_true rfl⟩ (JN.appL m1) 0 g1 ⟨rfl, rfl⟩ rfl rfl (Nat.le_of_ble_eq_true rfl) (fun H locs hP hD hS => ?_)
  refine lv_aload_n hx hb dL_law_731 rfl (lv_at hl 2 rfl) ?_
  refine ldA (pc := 732) (k := 1) hL CF hX hbl hS hl (ad1 i) (by omega) (by decide) dL_law_732 dL_law_733 dL_law_734 dL_law_735 dL_law_736 ?_
  refine kVI (n := 1) (As := [.int (xs (i + 1))]) (rest := [.int r]) CF hl hK hP hD hS hA c2 gL_law_X4_menders rfl dL_law_737 (by decide +kernel) ⟨⟨rfl, rfl⟩, ⟨Nat.le_of_ble_eq_true rfl, Nat.le_of_ble_eq_true rfl⟩, Nat.le_of_ble_eq_true rfl, Nat.le_of_ble_eq_true rfl⟩ (JN.appR m2) wx1.length g2 ⟨rfl, rfl⟩ rfl rfl (Nat.le_of_ble_eq_true rfl) (fun H locs hP hD hS => ?_)
  exact lv_icmp_eq (tgt := 1260) hx hb dL_law_740 (by decide) (fun _ => kk wx1 wm1 H locs hI1 hP hD hS) (fun h => absurd rfl h)
set_option maxRecDepth 100000 in
theorem lc_together {p : Program} {l : Launch} {e : Env} {s : State} {m : MethodId} {below : List Frame} {meth : Method} {c : Code} {D : va_G} {cI : ClassId} {b L : Nat} {xs : Nat → Int32} {a bb : Nat → Nat} {wx wm : va_W} {H : Heap} {locs : List Loc} {ls : Array Slot} {i : Nat} (hL : L ≤ 2560) (CF : CallFix p m c cL_law 4 s #[Value.ref b] wsL_law RL) (hX : va_X b L xs s s.heap) (hbl : b < s.heap.size) (hK : va_K D vwCl [(cI, .int)] s) (hI : IW a bb cI wx wm) (hP : va_P D vwCl (wx ++ wm) H) (hD : va_D (fun q : Nat => s.heap.size ≤ q) (wx ++ wm)) (hS : va_S (fun q : Nat => s.heap.size ≤ q) s.heap H locs) (hl : lv_has ls 4 [(0, .ref b), (1, .ref (a 0)), (2, .ref (bb 0)), (3, .int (nI i))]) (hi5 : i + 5 ≤ L)
    (kk : ∀ (wx1 wm1 : va_W) (H1 : Heap) (locs1 : List Loc), IW a bb cI wx1 wm1 → va_P D vwCl (wx1 ++ wm1) H1 → va_D (fun q : Nat => s.heap.size ≤ q) (wx1 ++ wm1) → va_S (fun q : Nat => s.heap.size ≤ q) s.heap H1 locs1 → W p l e room_1 s m #[Value.ref b] below meth c H1 locs1 44 1382 (lw_Z below #[Value.ref b] s) (F0 m 1260 ls [])) : W p l e room_1 s m #[Value.ref b] below meth c H locs 44 1382 (lw_Z below #[Value.ref b] s) (F0 m 745 ls []) := by
  obtain ⟨hx, hb, hml, hown, hts⟩ := id CF
  have hA : ∀ q : Nat, s.heap.size ≤ q → (fun q : Nat => s.heap.size ≤ q) q := fun _ h => h
  obtain ⟨wx1, wm1, r, c1, c2, hI1, m1, m2⟩ := p_together l D hI (xs (i + 1))
  obtain ⟨f1, g1⟩ := hI.x0 wm
  obtain ⟨f2, g2⟩ := hI.m0 wx1
  refine lv_aload_n hx hb dL_law_745 rfl (lv_at hl 1 rfl) ?_
  refine ldA (pc := 746) (k := 1) hL CF hX hbl hS hl (ad1 i) (by omega) (by decide) dL_law_746 dL_law_747 dL_law_748 dL_law_749 dL_law_750 ?_
  refine kVI (n := 1) (As := [.int (xs (i + 1))]) (rest := []) CF hl hK hP hD hS hA c1 gL_law_X3_together rfl dL_law_751 (by decide +kernel) ⟨⟨rfl, rfl⟩, ⟨Nat.le_of_ble_eq_true rfl, Nat.le_of_ble_eq_true rfl⟩, Nat.le_of_ble_eq_true rfl, Nat.le_of_ble_eq_true rfl⟩ (JN.appL m1) 0 g1 ⟨rfl, rfl⟩ rfl rfl (Nat.le_of_ble_eq_true rfl) (fun H locs hP hD hS => ?_)
  refine lv_aload_n hx hb dL_law_754 rfl (lv_at hl 2 rfl) ?_
  refine ldA (pc := 755) (k := 1) hL CF hX hbl hS hl (ad1 i) (by omega) (by decide) dL_law_755 dL_law_756 dL_law_757 dL_law_758 dL_law_759 ?_
  refine kVI (n := 1) (As := [.int (xs (i + 1))]) (rest := [.int r]) CF hl hK hP hD hS hA c2 gL_law_X4_together rfl dL_law_760 (by decide +kernel) ⟨⟨rfl, rfl⟩, ⟨Nat.le_of_ble_eq_true rfl, Nat.le_of_ble_eq_true rfl⟩, Nat.le_of_ble_eq_true rfl, Nat.le_of_ble_eq_true rfl⟩ (JN.appR m2) wx1.length g2 ⟨rfl, rfl⟩ rfl rfl (Nat.le_of_ble_eq_true rfl) (fun H locs hP hD hS => ?_)
  exact lv_icmp_eq (tgt := 1260) hx hb dL_law_763 (by decide) (fun _ => kk wx1 wm1 H locs hI1 hP hD hS) (fun h => absurd rfl h)
