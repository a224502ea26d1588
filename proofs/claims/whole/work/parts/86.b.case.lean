set_option maxRecDepth 100000 in
theorem lc_letter {p : Program} {l : Launch} {e : Env} {s : State} {m : MethodId} {below : List Frame} {meth : Method} {c : Code} {D : va_G} {cI : ClassId} {b L : Nat} {xs : Nat → Int32} {a bb : Nat → Nat} {wx wm : va_W} {H : Heap} {locs : List Loc} {ls : Array Slot} {i : Nat} (hL : L ≤ 2560) (CF : CallFix p m c cL_law 4 s #[Value.ref b] wsL_law RL) (hX : va_X b L xs s s.heap) (hbl : b < s.heap.size) (hK : va_K D vwCl [(cI, .int)] s) (hI : IW a bb cI wx wm) (hP : va_P D vwCl (wx ++ wm) H) (hD : va_D (fun q : Nat => s.heap.size ≤ q) (wx ++ wm)) (hS : va_S (fun q : Nat => s.heap.size ≤ q) s.heap H locs) (hl : lv_has ls 4 [(0, .ref b), (1, .ref (a 0)), (2, .ref (bb 0)), (3, .int (nI i))]) (hi5 : i + 5 ≤ L)
    (kk : ∀ (wx1 wm1 : va_W) (H1 : Heap) (locs1 : List Loc), IW a bb cI wx1 wm1 → va_P D vwCl (wx1 ++ wm1) H1 → va_D (fun q : Nat => s.heap.size ≤ q) (wx1 ++ wm1) → va_S (fun q : Nat => s.heap.size ≤ q) s.heap H1 locs1 → W p l e room_1 s m #[Value.ref b] below meth c H1 locs1 44 1382 (lw_Z below #[Value.ref b] s) (F0 m 1260 ls [])) : W p l e room_1 s m #[Value.ref b] below meth c H locs 44 1382 (lw_Z below #[Value.ref b] s) (F0 m 208 ls []) := by
  obtain ⟨hx, hb, hml, hown, hts⟩ := id CF
  have hA : ∀ q : Nat, s.heap.size ≤ q → (fun q : Nat => s.heap.size ≤ q) q := fun _ h => h
  obtain ⟨wx1, wm1, r, c1, c2, hI1, m1, m2⟩ := p_letter l D hI (xs (i + 1))
  obtain ⟨f1, g1⟩ := hI.x0 wm
  obtain ⟨f2, g2⟩ := hI.m0 wx1
  refine lv_aload_n hx hb dL_law_208 rfl (lv_at hl 1 rfl) ?_
  refine ldA (pc := 209) (k := 1) hL CF hX hbl hS hl (ad1 i) (by omega) (by decide) dL_law_209 dL_law_210 dL_law_211 dL_law_212 dL_law_213 ?_
  refine kVI (n := 1) (As := [.int (xs (i + 1))]) (rest := []) CF hl hK hP hD hS hA c1 gL_law_X3_letter rfl dL_law_214 (by decide +kernel) ⟨⟨rfl, rfl⟩, ⟨Nat.le_of_ble_eq_true rfl, Nat.le_of_ble_eq_true rfl⟩, Nat.le_of_ble_eq_true rfl, Nat.le_of_ble_eq_true rfl⟩ (JN.appL m1) 0 g1 ⟨rfl, rfl⟩ rfl rfl (Nat.le_of_ble_eq_true rfl) (fun H locs hP hD hS => ?_)
  refine lv_aload_n hx hb dL_law_217 rfl (lv_at hl 2 rfl) ?_
  refine ldA (pc := 218) (k := 1) hL CF hX hbl hS hl (ad1 i) (by omega) (by decide) dL_law_218 dL_law_219 dL_law_220 dL_law_221 dL_law_222 ?_
  refine kVI (n := 1) (As := [.int (xs (i + 1))]) (rest := [.int r]) CF hl hK hP hD hS hA c2 gL_law_X4_letter rfl dL_law_223 (by decide +kernel) ⟨⟨rfl, rfl⟩, ⟨Nat.le_of_ble_eq_true rfl, Nat.le_of_ble_eq_true rfl⟩, Nat.le_of_ble_eq_true rfl, Nat.le_of_ble_eq_true rfl⟩ (JN.appR m2) wx1.length g2 ⟨rfl, rfl⟩ rfl rfl (Nat.le_of_ble_eq_true rfl) (fun H locs hP hD hS => ?_)
  exact lv_icmp_eq (tgt := 1260) hx hb dL_law_226 (by decide) (fun _ => kk wx1 wm1 H locs hI1 hP hD hS) (fun h => absurd rfl h)
