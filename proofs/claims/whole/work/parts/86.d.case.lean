set_option maxRecDepth 100000 in
theorem lc_lost {p : Program} {l : Launch} {e : Env} {s : State} {m : MethodId} {below : List Frame} {meth : Method} {c : Code} {D : va_G} {cI : ClassId} {b L : Nat} {xs : Nat → Int32} {a bb : Nat → Nat} {wx wm : va_W} {H : Heap} {locs : List Loc} {ls : Array Slot} {i : Nat} (hL : L ≤ 2560) (CF : CallFix p m c cL_law 4 s #[Value.ref b] wsL_law RL) (hX : va_X b L xs s s.heap) (hbl : b < s.heap.size) (hK : va_K D vwCl [(cI, .int)] s) (hI : IW a bb cI wx wm) (hP : va_P D vwCl (wx ++ wm) H) (hD : va_D (fun q : Nat => s.heap.size ≤ q) (wx ++ wm)) (hS : va_S (fun q : Nat => s.heap.size ≤ q) s.heap H locs) (hl : lv_has ls 4 [(0, .ref b), (1, .ref (a 0)), (2, .ref (bb 0)), (3, .int (nI i))]) (hi5 : i + 5 ≤ L)
    (kk : ∀ (wx1 wm1 : va_W) (H1 : Heap) (locs1 : List Loc), IW a bb cI wx1 wm1 → va_P D vwCl (wx1 ++ wm1) H1 → va_D (fun q : Nat => s.heap.size ≤ q) (wx1 ++ wm1) → va_S (fun q : Nat => s.heap.size ≤ q) s.heap H1 locs1 → W p l e room_1 s m #[Value.ref b] below meth c H1 locs1 44 1382 (lw_Z below #[Value.ref b] s) (F0 m 1260 ls [])) : W p l e room_1 s m #[Value.ref b] below meth c H locs 44 1382 (lw_Z below #[Value.ref b] s) (F0 m 768 ls []) := by
  obtain ⟨hx, hb, hml, hown, hts⟩ := id CF
  have hA : ∀ q : Nat, s.heap.size ≤ q → (fun q : Nat => s.heap.size ≤ q) q := fun _ h => h
  obtain ⟨wx1, wm1, r, c1, c2, hI1, m1, m2⟩ := p_lost l D hI
  obtain ⟨f1, g1⟩ := hI.x0 wm
  obtain ⟨f2, g2⟩ := hI.m0 wx1
  refine lv_aload_n hx hb dL_law_768 rfl (lv_at hl 1 rfl) ?_
  refine kVI (n := 0) (As := []) (rest := []) CF hl hK hP hD hS hA c1 gL_law_X3_lost rfl dL_law_769 (by decide +kernel) ⟨⟨rfl, rfl⟩, ⟨Nat.le_of_ble_eq_true rfl, Nat.le_of_ble_eq_true rfl⟩, Nat.le_of_ble_eq_true rfl, Nat.le_of_ble_eq_true rfl⟩ (JN.appL m1) 0 g1 ⟨rfl, rfl⟩ rfl rfl (Nat.le_of_ble_eq_true rfl) (fun H locs hP hD hS => ?_)
  refine lv_aload_n hx hb dL_law_772 rfl (lv_at hl 2 rfl) ?_
  refine kVI (n := 0) (As := []) (rest := [.int r]) CF hl hK hP hD hS hA c2 gL_law_X4_lost rfl dL_law_773 (by decide +kernel) ⟨⟨rfl, rfl⟩, ⟨Nat.le_of_ble_eq_true rfl, Nat.le_of_ble_eq_true rfl⟩, Nat.le_of_ble_eq_true rfl, Nat.le_of_ble_eq_true rfl⟩ (JN.appR m2) wx1.length g2 ⟨rfl, rfl⟩ rfl rfl (Nat.le_of_ble_eq_true rfl) (fun H locs hP hD hS => ?_)
  exact lv_icmp_eq (tgt := 1260) hx hb dL_law_776 (by decide) (fun _ => kk wx1 wm1 H locs hI1 hP hD hS) (fun h => absurd rfl h)
set_option maxRecDepth 100000 in
theorem lc_breaker {p : Program} {l : Launch} {e : Env} {s : State} {m : MethodId} {below : List Frame} {meth : Method} {c : Code} {D : va_G} {cI : ClassId} {b L : Nat} {xs : Nat → Int32} {a bb : Nat → Nat} {wx wm : va_W} {H : Heap} {locs : List Loc} {ls : Array Slot} {i : Nat} (hL : L ≤ 2560) (CF : CallFix p m c cL_law 4 s #[Value.ref b] wsL_law RL) (hX : va_X b L xs s s.heap) (hbl : b < s.heap.size) (hK : va_K D vwCl [(cI, .int)] s) (hI : IW a bb cI wx wm) (hP : va_P D vwCl (wx ++ wm) H) (hD : va_D (fun q : Nat => s.heap.size ≤ q) (wx ++ wm)) (hS : va_S (fun q : Nat => s.heap.size ≤ q) s.heap H locs) (hl : lv_has ls 4 [(0, .ref b), (1, .ref (a 0)), (2, .ref (bb 0)), (3, .int (nI i))]) (hi5 : i + 5 ≤ L)
    (kk : ∀ (wx1 wm1 : va_W) (H1 : Heap) (locs1 : List Loc), IW a bb cI wx1 wm1 → va_P D vwCl (wx1 ++ wm1) H1 → va_D (fun q : Nat => s.heap.size ≤ q) (wx1 ++ wm1) → va_S (fun q : Nat => s.heap.size ≤ q) s.heap H1 locs1 → W p l e room_1 s m #[Value.ref b] below meth c H1 locs1 44 1382 (lw_Z below #[Value.ref b] s) (F0 m 1260 ls [])) : W p l e room_1 s m #[Value.ref b] below meth c H locs 44 1382 (lw_Z below #[Value.ref b] s) (F0 m 781 ls []) := by
  obtain ⟨hx, hb, hml, hown, hts⟩ := id CF
  have hA : ∀ q : Nat, s.heap.size ≤ q → (fun q : Nat => s.heap.size ≤ q) q := fun _ h => h
  obtain ⟨wx1, wm1, r, c1, c2, hI1, m1, m2⟩ := p_breaker l D hI (xs (i + 1))
  obtain ⟨f1, g1⟩ := hI.x0 wm
  obtain ⟨f2, g2⟩ := hI.m0 wx1
  refine lv_aload_n hx hb dL_law_781 rfl (lv_at hl 1 rfl) ?_
  refine ldA (pc := 782) (k := 1) hL CF hX hbl hS hl (ad1 i) (by omega) (by decide) dL_law_782 dL_law_783 dL_law_784 dL_law_785 dL_law_786 ?_
  refine kVI (n := 1) (As := [.int (xs (i + 1))]) (rest := []) CF hl hK hP hD hS hA c1 gL_law_X3_breaker rfl dL_law_787 (by decide +kernel) ⟨⟨rfl, rfl⟩, ⟨Nat.le_of_ble_eq_true rfl, Nat.le_of_ble_eq_true rfl⟩, Nat.le_of_ble_eq_true rfl, Nat.le_of_ble_eq_true rfl⟩ (JN.appL m1) 0 g1 ⟨rfl, rfl⟩ rfl rfl (Nat.le_of_ble_eq_true rfl) (fun H locs hP hD hS => ?_)
  refine lv_aload_n hx hb dL_law_790 rfl (lv_at hl 2 rfl) ?_
  refine ldA (pc := 791) (k := 1) hL CF hX hbl hS hl (ad1 i) (by omega) (by decide) dL_law_791 dL_law_792 dL_law_793 dL_law_794 dL_law_795 ?_
  refine kVI (n := 1) (As := [.int (xs (i + 1))]) (rest := [.int r]) CF hl hK hP hD hS hA c2 gL_law_X4_breaker rfl dL_law_796 (by decide +kernel) ⟨⟨rfl, rfl⟩, ⟨Nat.le_of_ble_eq_true rfl, Nat.le_of_ble_eq_true rfl⟩, Nat.le_of_ble_eq_true rfl, Nat.le_of_ble_eq_true rfl⟩ (JN.appR m2) wx1.length g2 ⟨rfl, rfl⟩ rfl rfl (Nat.le_of_ble_eq_true rfl) (fun H locs hP hD hS => ?_)
  exact lv_icmp_eq (tgt := 1260) hx hb dL_law_799 (by decide) (fun _ => kk wx1 wm1 H locs hI1 hP hD hS) (fun h => absurd rfl h)
set_option maxRecDepth 100000 in
theorem lc_bestSays {p : Program} {l : Launch} {e : Env} {s : State} {m : MethodId} {below : List Frame} {meth : Method} {c : Code} {D : va_G} {cI : ClassId} {b L : Nat} {xs : Nat → Int32} {a bb : Nat → Nat} {wx wm : va_W} {H : Heap} {locs : List Loc} {ls : Array Slot} {i : Nat} (hL : L ≤ 2560) (CF : CallFix p m c cL_law 4 s #[Value.ref b] wsL_law RL) (hX : va_X b L xs s s.heap) (hbl : b < s.heap.size) (hK : va_K D vwCl [(cI, .int)] s) (hI : IW a bb cI wx wm) (hP : va_P D vwCl (wx ++ wm) H) (hD : va_D (fun q : Nat => s.heap.size ≤ q) (wx ++ wm)) (hS : va_S (fun q : Nat => s.heap.size ≤ q) s.heap H locs) (hl : lv_has ls 4 [(0, .ref b), (1, .ref (a 0)), (2, .ref (bb 0)), (3, .int (nI i))]) (hi5 : i + 5 ≤ L)
    (kk : ∀ (wx1 wm1 : va_W) (H1 : Heap) (locs1 : List Loc), IW a bb cI wx1 wm1 → va_P D vwCl (wx1 ++ wm1) H1 → va_D (fun q : Nat => s.heap.size ≤ q) (wx1 ++ wm1) → va_S (fun q : Nat => s.heap.size ≤ q) s.heap H1 locs1 → W p l e room_1 s m #[Value.ref b] below meth c H1 locs1 44 1382 (lw_Z below #[Value.ref b] s) (F0 m 1260 ls [])) : W p l e room_1 s m #[Value.ref b] below meth c H locs 44 1382 (lw_Z below #[Value.ref b] s) (F0 m 804 ls []) := by
  obtain ⟨hx, hb, hml, hown, hts⟩ := id CF
  have hA : ∀ q : Nat, s.heap.size ≤ q → (fun q : Nat => s.heap.size ≤ q) q := fun _ h => h
  obtain ⟨wx1, wm1, r, c1, c2, hI1, m1, m2⟩ := p_bestSays l D hI (xs (i + 1))
  obtain ⟨f1, g1⟩ := hI.x0 wm
  obtain ⟨f2, g2⟩ := hI.m0 wx1
  refine lv_aload_n hx hb dL_law_804 rfl (lv_at hl 1 rfl) ?_
  refine ldA (pc := 805) (k := 1) hL CF hX hbl hS hl (ad1 i) (by omega) (by decide) dL_law_805 dL_law_806 dL_law_807 dL_law_808 dL_law_809 ?_
  refine kVI (n := 1) (As := [.int (xs (i + 1))]) (rest := []) CF hl hK hP hD hS hA c1 gL_law_X3_bestSays rfl dL_law_810 (by decide +kernel) ⟨⟨rfl, rfl⟩, ⟨Nat.le_of_ble_eq_true rfl, Nat.le_of_ble_eq_true rfl⟩, Nat.le_of_ble_eq_true rfl, Nat.le_of_ble_eq_true rfl⟩ (JN.appL m1) 0 g1 ⟨rfl, rfl⟩ rfl rfl (Nat.le_of_ble_eq_true rfl) (fun H locs hP hD hS => ?_)
  refine lv_aload_n hx hb dL_law_813 rfl (lv_at hl 2 rfl) ?_
  refine ldA (pc := 814) (k := 1) hL CF hX hbl hS hl (ad1 i) (by omega) (by decide) dL_law_814 dL_law_815 dL_law_816 dL_law_817 dL_law_818 ?_
  refine kVI (n := 1) (As := [.int (xs (i + 1))]) (rest := [.int r]) CF hl hK hP hD hS hA c2 gL_law_X4_bestSays rfl dL_law_819 (by decide +kernel) ⟨⟨rfl, rfl⟩, ⟨Nat.le_of_ble_eq_true rfl, Nat.le_of_ble_eq_true rfl⟩, Nat.le_of_ble_eq_true rfl, Nat.le_of_ble_eq_true rfl⟩ (JN.appR m2) wx1.length g2 ⟨rfl, rfl⟩ rfl rfl (Nat.le_of_ble_eq_true rfl) (fun H locs hP hD hS => ?_)
  exact lv_icmp_eq (tgt := 1260) hx hb dL_law_822 (by decide) (fun _ => kk wx1 wm1 H locs hI1 hP hD hS) (fun h => absurd rfl h)
set_option maxRecDepth 100000 in
theorem lc_confessions {p : Program} {l : Launch} {e : Env} {s : State} {m : MethodId} {below : List Frame} {meth : Method} {c : Code} {D : va_G} {cI : ClassId} {b L : Nat} {xs : Nat → Int32} {a bb : Nat → Nat} {wx wm : va_W} {H : Heap} {locs : List Loc} {ls : Array Slot} {i : Nat} (hL : L ≤ 2560) (CF : CallFix p m c cL_law 4 s #[Value.ref b] wsL_law RL) (hX : va_X b L xs s s.heap) (hbl : b < s.heap.size) (hK : va_K D vwCl [(cI, .int)] s) (hI : IW a bb cI wx wm) (hP : va_P D vwCl (wx ++ wm) H) (hD : va_D (fun q : Nat => s.heap.size ≤ q) (wx ++ wm)) (hS : va_S (fun q : Nat => s.heap.size ≤ q) s.heap H locs) (hl : lv_has ls 4 [(0, .ref b), (1, .ref (a 0)), (2, .ref (bb 0)), (3, .int (nI i))]) (hi5 : i + 5 ≤ L)
    (kk : ∀ (wx1 wm1 : va_W) (H1 : Heap) (locs1 : List Loc), IW a bb cI wx1 wm1 → va_P D vwCl (wx1 ++ wm1) H1 → va_D (fun q : Nat => s.heap.size ≤ q) (wx1 ++ wm1) → va_S (fun q : Nat => s.heap.size ≤ q) s.heap H1 locs1 → W p l e room_1 s m #[Value.ref b] below meth c H1 locs1 44 1382 (lw_Z below #[Value.ref b] s) (F0 m 1260 ls [])) : W p l e room_1 s m #[Value.ref b] below meth c H locs 44 1382 (lw_Z below #[Value.ref b] s) (F0 m 827 ls []) := by
  obtain ⟨hx, hb, hml, hown, hts⟩ := id CF
  have hA : ∀ q : Nat, s.heap.size ≤ q → (fun q : Nat => s.heap.size ≤ q) q := fun _ h => h
  obtain ⟨wx1, wm1, r, c1, c2, hI1, m1, m2⟩ := p_confessions l D hI
  obtain ⟨f1, g1⟩ := hI.x0 wm
  obtain ⟨f2, g2⟩ := hI.m0 wx1
  refine lv_aload_n hx hb dL_law_827 rfl (lv_at hl 1 rfl) ?_
  refine kVI (n := 0) (As := []) (rest := []) CF hl hK hP hD hS hA c1 gL_law_X3_confessions rfl dL_law_828 (by decide +kernel) ⟨⟨rfl, rfl⟩, ⟨Nat.le_of_ble_eq_true rfl, Nat.le_of_ble_eq_true rfl⟩, Nat.le_of_ble_eq_true rfl, Nat.le_of_ble_eq_true rfl⟩ (JN.appL m1) 0 g1 ⟨rfl, rfl⟩ rfl rfl (Nat.le_of_ble_eq_true rfl) (fun H locs hP hD hS => ?_)
  refine lv_aload_n hx hb dL_law_831 rfl (lv_at hl 2 rfl) ?_
  refine kVI (n := 0) (As := []) (rest := [.int r]) CF hl hK hP hD hS hA c2 gL_law_X4_confessions rfl dL_law_832 (by decide +kernel) ⟨⟨rfl, rfl⟩, ⟨Nat.le_of_ble_eq_true rfl, Nat.le_of_ble_eq_true rfl⟩, Nat.le_of_ble_eq_true rfl, Nat.le_of_ble_eq_true rfl⟩ (JN.appR m2) wx1.length g2 ⟨rfl, rfl⟩ rfl rfl (Nat.le_of_ble_eq_true rfl) (fun H locs hP hD hS => ?_)
  exact lv_icmp_eq (tgt := 1260) hx hb dL_law_835 (by decide) (fun _ => kk wx1 wm1 H locs hI1 hP hD hS) (fun h => absurd rfl h)
set_option maxRecDepth 100000 in
theorem lc_learns {p : Program} {l : Launch} {e : Env} {s : State} {m : MethodId} {below : List Frame} {meth : Method} {c : Code} {D : va_G} {cI : ClassId} {b L : Nat} {xs : Nat → Int32} {a bb : Nat → Nat} {wx wm : va_W} {H : Heap} {locs : List Loc} {ls : Array Slot} {i : Nat} (hL : L ≤ 2560) (CF : CallFix p m c cL_law 4 s #[Value.ref b] wsL_law RL) (hX : va_X b L xs s s.heap) (hbl : b < s.heap.size) (hK : va_K D vwCl [(cI, .int)] s) (hI : IW a bb cI wx wm) (hP : va_P D vwCl (wx ++ wm) H) (hD : va_D (fun q : Nat => s.heap.size ≤ q) (wx ++ wm)) (hS : va_S (fun q : Nat => s.heap.size ≤ q) s.heap H locs) (hl : lv_has ls 4 [(0, .ref b), (1, .ref (a 0)), (2, .ref (bb 0)), (3, .int (nI i))]) (hi5 : i + 5 ≤ L)
    (kk : ∀ (wx1 wm1 : va_W) (H1 : Heap) (locs1 : List Loc), IW a bb cI wx1 wm1 → va_P D vwCl (wx1 ++ wm1) H1 → va_D (fun q : Nat => s.heap.size ≤ q) (wx1 ++ wm1) → va_S (fun q : Nat => s.heap.size ≤ q) s.heap H1 locs1 → W p l e room_1 s m #[Value.ref b] below meth c H1 locs1 44 1382 (lw_Z below #[Value.ref b] s) (F0 m 1260 ls [])) : W p l e room_1 s m #[Value.ref b] below meth c H locs 44 1382 (lw_Z below #[Value.ref b] s) (F0 m 840 ls []) := by
  obtain ⟨hx, hb, hml, hown, hts⟩ := id CF
  have hA : ∀ q : Nat, s.heap.size ≤ q → (fun q : Nat => s.heap.size ≤ q) q := fun _ h => h
  obtain ⟨wx1, wm1, r, c1, c2, hI1, m1, m2⟩ := p_learns l D hI (xs (i + 1))
  obtain ⟨f1, g1⟩ := hI.x0 wm
  obtain ⟨f2, g2⟩ := hI.m0 wx1
  refine lv_aload_n hx hb dL_law_840 rfl (lv_at hl 1 rfl) ?_
  refine ldA (pc := 841) (k := 1) hL CF hX hbl hS hl (ad1 i) (by omega) (by decide) dL_law_841 dL_law_842 dL_law_843 dL_law_844 dL_law_845 ?_
  refine kVI (n := 1) (As := [.int (xs (i + 1))]) (rest := []) CF hl hK hP hD hS hA c1 gL_law_X3_learns rfl dL_law_846 (by decide +kernel) ⟨⟨rfl, rfl⟩, ⟨Nat.le_of_ble_eq_true rfl, Nat.le_of_ble_eq_true rfl⟩, Nat.le_of_ble_eq_true rfl, Nat.le_of_ble_eq_true rfl⟩ (JN.appL m1) 0 g1 ⟨rfl, rfl⟩ rfl rfl (Nat.le_of_ble_eq_true rfl) (fun H locs hP hD hS => ?_)
  refine lv_aload_n hx hb dL_law_849 rfl (lv_at hl 2 rfl) ?_
  refine ldA (pc := 850) (k := 1) hL CF hX hbl hS hl (ad1 i) (by omega) (by decide) dL_law_850 dL_law_851 dL_law_852 dL_law_853 dL_law_854 ?_
  refine kVI (n := 1) (As := [.int (xs (i + 1))]) (rest := [.int r]) CF hl hK hP hD hS hA c2 gL_law_X4_learns rfl dL_law_855 (by decide +kernel) ⟨⟨rfl, rfl⟩, ⟨Nat.le_of_ble_eq_true rfl, Nat.le_of_ble_eq_true rfl⟩, Nat.le_of_ble_eq_true rfl, Nat.le_of_ble_eq_true rfl⟩ (JN.appR m2) wx1.length g2 ⟨rfl, rfl⟩ rfl rfl (Nat.le_of_ble_eq_true rfl) (fun H locs hP hD hS => ?_)
  exact lv_icmp_eq (tgt := 1260) hx hb dL_law_858 (by decide) (fun _ => kk wx1 wm1 H locs hI1 hP hD hS) (fun h => absurd rfl h)
set_option maxRecDepth 100000 in
theorem lc_missed {p : Program} {l : Launch} {e : Env} {s : State} {m : MethodId} {below : List Frame} {meth : Method} {c : Code} {D : va_G} {cI : ClassId} {b L : Nat} {xs : Nat → Int32} {a bb : Nat → Nat} {wx wm : va_W} {H : Heap} {locs : List Loc} {ls : Array Slot} {i : Nat} (hL : L ≤ 2560) (CF : CallFix p m c cL_law 4 s #[Value.ref b] wsL_law RL) (hX : va_X b L xs s s.heap) (hbl : b < s.heap.size) (hK : va_K D vwCl [(cI, .int)] s) (hI : IW a bb cI wx wm) (hP : va_P D vwCl (wx ++ wm) H) (hD : va_D (fun q : Nat => s.heap.size ≤ q) (wx ++ wm)) (hS : va_S (fun q : Nat => s.heap.size ≤ q) s.heap H locs) (hl : lv_has ls 4 [(0, .ref b), (1, .ref (a 0)), (2, .ref (bb 0)), (3, .int (nI i))]) (hi5 : i + 5 ≤ L)
    (kk : ∀ (wx1 wm1 : va_W) (H1 : Heap) (locs1 : List Loc), IW a bb cI wx1 wm1 → va_P D vwCl (wx1 ++ wm1) H1 → va_D (fun q : Nat => s.heap.size ≤ q) (wx1 ++ wm1) → va_S (fun q : Nat => s.heap.size ≤ q) s.heap H1 locs1 → W p l e room_1 s m #[Value.ref b] below meth c H1 locs1 44 1382 (lw_Z below #[Value.ref b] s) (F0 m 1260 ls [])) : W p l e room_1 s m #[Value.ref b] below meth c H locs 44 1382 (lw_Z below #[Value.ref b] s) (F0 m 863 ls []) := by
  obtain ⟨hx, hb, hml, hown, hts⟩ := id CF
  have hA : ∀ q : Nat, s.heap.size ≤ q → (fun q : Nat => s.heap.size ≤ q) q := fun _ h => h
  obtain ⟨wx1, wm1, r, c1, c2, hI1, m1, m2⟩ := p_missed l D hI (xs (i + 1))
  obtain ⟨f1, g1⟩ := hI.x0 wm
  obtain ⟨f2, g2⟩ := hI.m0 wx1
  refine lv_aload_n hx hb dL_law_863 rfl (lv_at hl 1 rfl) ?_
  refine ldA (pc := 864) (k := 1) hL CF hX hbl hS hl (ad1 i) (by omega) (by decide) dL_law_864 dL_law_865 dL_law_866 dL_law_867 dL_law_868 ?_
  refine kVI (n := 1) (As := [.int (xs (i + 1))]) (rest := []) CF hl hK hP hD hS hA c1 gL_law_X3_missed rfl dL_law_869 (by decide +kernel) ⟨⟨rfl, rfl⟩, ⟨Nat.le_of_ble_eq_true rfl, Nat.le_of_ble_eq_true rfl⟩, Nat.le_of_ble_eq_true rfl, Nat.le_of_ble_eq_true rfl⟩ (JN.appL m1) 0 g1 ⟨rfl, rfl⟩ rfl rfl (Nat.le_of_ble_eq_true rfl) (fun H locs hP hD hS => ?_)
  refine lv_aload_n hx hb dL_law_872 rfl (lv_at hl 2 rfl) ?_
  refine ldA (pc := 873) (k := 1) hL CF hX hbl hS hl (ad1 i) (by omega) (by decide) dL_law_873 dL_law_874 dL_law_875 dL_law_876 dL_law_877 ?_
  refine kVI (n := 1) (As := [.int (xs (i + 1))]) (rest := [.int r]) CF hl hK hP hD hS hA c2 gL_law_X4_missed rfl dL_law_878 (by decide +kernel) ⟨⟨rfl, rfl⟩, ⟨Nat.le_of_ble_eq_true rfl, Nat.le_of_ble_eq_true rfl⟩, Nat.le_of_ble_eq_true rfl, Nat.le_of_ble_eq_true rfl⟩ (JN.appR m2) wx1.length g2 ⟨rfl, rfl⟩ rfl rfl (Nat.le_of_ble_eq_true rfl) (fun H locs hP hD hS => ?_)
  exact lv_icmp_eq (tgt := 1260) hx hb dL_law_881 (by decide) (fun _ => kk wx1 wm1 H locs hI1 hP hD hS) (fun h => absurd rfl h)
set_option maxRecDepth 100000 in
theorem lc_due {p : Program} {l : Launch} {e : Env} {s : State} {m : MethodId} {below : List Frame} {meth : Method} {c : Code} {D : va_G} {cI : ClassId} {b L : Nat} {xs : Nat → Int32} {a bb : Nat → Nat} {wx wm : va_W} {H : Heap} {locs : List Loc} {ls : Array Slot} {i : Nat} (hL : L ≤ 2560) (CF : CallFix p m c cL_law 4 s #[Value.ref b] wsL_law RL) (hX : va_X b L xs s s.heap) (hbl : b < s.heap.size) (hK : va_K D vwCl [(cI, .int)] s) (hI : IW a bb cI wx wm) (hP : va_P D vwCl (wx ++ wm) H) (hD : va_D (fun q : Nat => s.heap.size ≤ q) (wx ++ wm)) (hS : va_S (fun q : Nat => s.heap.size ≤ q) s.heap H locs) (hl : lv_has ls 4 [(0, .ref b), (1, .ref (a 0)), (2, .ref (bb 0)), (3, .int (nI i))]) (hi5 : i + 5 ≤ L)
    (kk : ∀ (wx1 wm1 : va_W) (H1 : Heap) (locs1 : List Loc), IW a bb cI wx1 wm1 → va_P D vwCl (wx1 ++ wm1) H1 → va_D (fun q : Nat => s.heap.size ≤ q) (wx1 ++ wm1) → va_S (fun q : Nat => s.heap.size ≤ q) s.heap H1 locs1 → W p l e room_1 s m #[Value.ref b] below meth c H1 locs1 44 1382 (lw_Z below #[Value.ref b] s) (F0 m 1260 ls [])) : W p l e room_1 s m #[Value.ref b] below meth c H locs 44 1382 (lw_Z below #[Value.ref b] s) (F0 m 886 ls []) := by
  obtain ⟨hx, hb, hml, hown, hts⟩ := id CF
  have hA : ∀ q : Nat, s.heap.size ≤ q → (fun q : Nat => s.heap.size ≤ q) q := fun _ h => h
  obtain ⟨wx1, wm1, r, c1, c2, hI1, m1, m2⟩ := p_due l D hI (xs (i + 1))
  obtain ⟨f1, g1⟩ := hI.x0 wm
  obtain ⟨f2, g2⟩ := hI.m0 wx1
  refine lv_aload_n hx hb dL_law_886 rfl (lv_at hl 1 rfl) ?_
  refine ldA (pc := 887) (k := 1) hL CF hX hbl hS hl (ad1 i) (by omega) (by decide) dL_law_887 dL_law_888 dL_law_889 dL_law_890 dL_law_891 ?_
  refine kVI (n := 1) (As := [.int (xs (i + 1))]) (rest := []) CF hl hK hP hD hS hA c1 gL_law_X3_due rfl dL_law_892 (by decide +kernel) ⟨⟨rfl, rfl⟩, ⟨Nat.le_of_ble_eq_true rfl, Nat.le_of_ble_eq_true rfl⟩, Nat.le_of_ble_eq_true rfl, Nat.le_of_ble_eq_true rfl⟩ (JN.appL m1) 0 g1 ⟨rfl, rfl⟩ rfl rfl (Nat.le_of_ble_eq_true rfl) (fun H locs hP hD hS => ?_)
  refine lv_aload_n hx hb dL_law_895 rfl (lv_at hl 2 rfl) ?_
  refine ldA (pc := 896) (k := 1) hL CF hX hbl hS hl (ad1 i) (by omega) (by decide) dL_law_896 dL_law_897 dL_law_898 dL_law_899 dL_law_900 ?_
  refine kVI (n := 1) (As := [.int (xs (i + 1))]) (rest := [.int r]) CF hl hK hP hD hS hA c2 gL_law_X4_due rfl dL_law_901 (by decide +kernel) ⟨⟨rfl, rfl⟩, ⟨Nat.le_of_ble_eq_true rfl, Nat.le_of_ble_eq_true rfl⟩, Nat.le_of_ble_eq_true rfl, Nat.le_of_ble_eq_true rfl⟩ (JN.appR m2) wx1.length g2 ⟨rfl, rfl⟩ rfl rfl (Nat.le_of_ble_eq_true rfl) (fun H locs hP hD hS => ?_)
  exact lv_icmp_eq (tgt := 1260) hx hb dL_law_904 (by decide) (fun _ => kk wx1 wm1 H locs hI1 hP hD hS) (fun h => absurd rfl h)
set_option maxRecDepth 100000 in
theorem lc_ring {p : Program} {l : Launch} {e : Env} {s : State} {m : MethodId} {below : List Frame} {meth : Method} {c : Code} {D : va_G} {cI : ClassId} {b L : Nat} {xs : Nat → Int32} {a bb : Nat → Nat} {wx wm : va_W} {H : Heap} {locs : List Loc} {ls : Array Slot} {i : Nat} (hL : L ≤ 2560) (CF : CallFix p m c cL_law 4 s #[Value.ref b] wsL_law RL) (hX : va_X b L xs s s.heap) (hbl : b < s.heap.size) (hK : va_K D vwCl [(cI, .int)] s) (hI : IW a bb cI wx wm) (hP : va_P D vwCl (wx ++ wm) H) (hD : va_D (fun q : Nat => s.heap.size ≤ q) (wx ++ wm)) (hS : va_S (fun q : Nat => s.heap.size ≤ q) s.heap H locs) (hl : lv_has ls 4 [(0, .ref b), (1, .ref (a 0)), (2, .ref (bb 0)), (3, .int (nI i))]) (hi5 : i + 5 ≤ L)
    (kk : ∀ (wx1 wm1 : va_W) (H1 : Heap) (locs1 : List Loc), IW a bb cI wx1 wm1 → va_P D vwCl (wx1 ++ wm1) H1 → va_D (fun q : Nat => s.heap.size ≤ q) (wx1 ++ wm1) → va_S (fun q : Nat => s.heap.size ≤ q) s.heap H1 locs1 → W p l e room_1 s m #[Value.ref b] below meth c H1 locs1 44 1382 (lw_Z below #[Value.ref b] s) (F0 m 1260 ls [])) : W p l e room_1 s m #[Value.ref b] below meth c H locs 44 1382 (lw_Z below #[Value.ref b] s) (F0 m 909 ls []) := by
  obtain ⟨hx, hb, hml, hown, hts⟩ := id CF
  have hA : ∀ q : Nat, s.heap.size ≤ q → (fun q : Nat => s.heap.size ≤ q) q := fun _ h => h
  obtain ⟨wx1, wm1, r, c1, c2, hI1, m1, m2⟩ := p_ring l D hI (xs (i + 1)) (xs (i + 2))
  obtain ⟨f1, g1⟩ := hI.x0 wm
  obtain ⟨f2, g2⟩ := hI.m0 wx1
  refine lv_aload_n hx hb dL_law_909 rfl (lv_at hl 1 rfl) ?_
  refine ldA (pc := 910) (k := 1) hL CF hX hbl hS hl (ad1 i) (by omega) (by decide) dL_law_910 dL_law_911 dL_law_912 dL_law_913 dL_law_914 ?_
  refine ldA (pc := 915) (k := 2) hL CF hX hbl hS hl (ad2 i) (by omega) (by decide) dL_law_915 dL_law_916 dL_law_917 dL_law_918 dL_law_919 ?_
  refine kVI (n := 2) (As := [.int (xs (i + 1)), .int (xs (i + 2))]) (rest := []) CF hl hK hP hD hS hA c1 gL_law_X3_ring rfl dL_law_920 (by decide +kernel) ⟨⟨rfl, rfl⟩, ⟨Nat.le_of_ble_eq_true rfl, Nat.le_of_ble_eq_true rfl⟩, Nat.le_of_ble_eq_true rfl, Nat.le_of_ble_eq_true rfl⟩ (JN.appL m1) 0 g1 ⟨rfl, rfl⟩ rfl rfl (Nat.le_of_ble_eq_true rfl) (fun H locs hP hD hS => ?_)
  refine lv_aload_n hx hb dL_law_923 rfl (lv_at hl 2 rfl) ?_
  refine ldA (pc := 924) (k := 1) hL CF hX hbl hS hl (ad1 i) (by omega) (by decide) dL_law_924 dL_law_925 dL_law_926 dL_law_927 dL_law_928 ?_
  refine ldA (pc := 929) (k := 2) hL CF hX hbl hS hl (ad2 i) (by omega) (by decide) dL_law_929 dL_law_930 dL_law_931 dL_law_932 dL_law_933 ?_
  refine kVI (n := 2) (As := [.int (xs (i + 1)), .int (xs (i + 2))]) (rest := [.int r]) CF hl hK hP hD hS hA c2 gL_law_X4_ring rfl dL_law_934 (by decide +kernel) ⟨⟨rfl, rfl⟩, ⟨Nat.le_of_ble_eq_true rfl, Nat.le_of_ble_eq_true rfl⟩, Nat.le_of_ble_eq_true rfl, Nat.le_of_ble_eq_true rfl⟩ (JN.appR m2) wx1.length g2 ⟨rfl, rfl⟩ rfl rfl (Nat.le_of_ble_eq_true rfl) (fun H locs hP hD hS => ?_)
  exact lv_icmp_eq (tgt := 1260) hx hb dL_law_937 (by decide) (fun _ => kk wx1 wm1 H locs hI1 hP hD hS) (fun h => absurd rfl h)
set_option maxRecDepth 100000 in
theorem lc_arranged {p : Program} {l : Launch} {e : Env} {s : State} {m : MethodId} {below : List Frame} {meth : Method} {c : Code} {D : va_G} {cI : ClassId} {b L : Nat} {xs : Nat → Int32} {a bb : Nat → Nat} {wx wm : va_W} {H : Heap} {locs : List Loc} {ls : Array Slot} {i : Nat} (hL : L ≤ 2560) (CF : CallFix p m c cL_law 4 s #[Value.ref b] wsL_law RL) (hX : va_X b L xs s s.heap) (hbl : b < s.heap.size) (hK : va_K D vwCl [(cI, .int)] s) (hI : IW a bb cI wx wm) (hP : va_P D vwCl (wx ++ wm) H) (hD : va_D (fun q : Nat => s.heap.size ≤ q) (wx ++ wm)) (hS : va_S (fun q : Nat => s.heap.size ≤ q) s.heap H locs) (hl : lv_has ls 4 [(0, .ref b), (1, .ref (a 0)), (2, .ref (bb 0)), (3, .int (nI i))]) (hi5 : i + 5 ≤ L)
    (kk : ∀ (wx1 wm1 : va_W) (H1 : Heap) (locs1 : List Loc), IW a bb cI wx1 wm1 → va_P D vwCl (wx1 ++ wm1) H1 → va_D (fun q : Nat => s.heap.size ≤ q) (wx1 ++ wm1) → va_S (fun q : Nat => s.heap.size ≤ q) s.heap H1 locs1 → W p l e room_1 s m #[Value.ref b] below meth c H1 locs1 44 1382 (lw_Z below #[Value.ref b] s) (F0 m 1260 ls [])) : W p l e room_1 s m #[Value.ref b] below meth c H locs 44 1382 (lw_Z below #[Value.ref b] s) (F0 m 942 ls []) := by
  obtain ⟨hx, hb, hml, hown, hts⟩ := id CF
  have hA : ∀ q : Nat, s.heap.size ≤ q → (fun q : Nat => s.heap.size ≤ q) q := fun _ h => h
  obtain ⟨wx1, wm1, r, c1, c2, hI1, m1, m2⟩ := p_arranged l D hI (xs (i + 1))
  obtain ⟨f1, g1⟩ := hI.x0 wm
  obtain ⟨f2, g2⟩ := hI.m0 wx1
  refine lv_aload_n hx hb dL_law_942 rfl (lv_at hl 1 rfl) ?_
  refine ldA (pc := 943) (k := 1) hL CF hX hbl hS hl (ad1 i) (by omega) (by decide) dL_law_943 dL_law_944 dL_law_945 dL_law_946 dL_law_947 ?_
  refine kVI (n := 1) (As := [.int (xs (i + 1))]) (rest := []) CF hl hK hP hD hS hA c1 gL_law_X3_arranged rfl dL_law_948 (by decide +kernel) ⟨⟨rfl, rfl⟩, ⟨Nat.le_of_ble_eq_true rfl, Nat.le_of_ble_eq_true rfl⟩, Nat.le_of_ble_eq_true rfl, Nat.le_of_ble_eq_true rfl⟩ (JN.appL m1) 0 g1 ⟨rfl, rfl⟩ rfl rfl (Nat.le_of_ble_eq_true rfl) (fun H locs hP hD hS => ?_)
  refine lv_aload_n hx hb dL_law_951 rfl (lv_at hl 2 rfl) ?_
  refine ldA (pc := 952) (k := 1) hL CF hX hbl hS hl (ad1 i) (by omega) (by decide) dL_law_952 dL_law_953 dL_law_954 dL_law_955 dL_law_956 ?_
  refine kVI (n := 1) (As := [.int (xs (i + 1))]) (rest := [.int r]) CF hl hK hP hD hS hA c2 gL_law_X4_arranged rfl dL_law_957 (by decide +kernel) ⟨⟨rfl, rfl⟩, ⟨Nat.le_of_ble_eq_true rfl, Nat.le_of_ble_eq_true rfl⟩, Nat.le_of_ble_eq_true rfl, Nat.le_of_ble_eq_true rfl⟩ (JN.appR m2) wx1.length g2 ⟨rfl, rfl⟩ rfl rfl (Nat.le_of_ble_eq_true rfl) (fun H locs hP hD hS => ?_)
  exact lv_icmp_eq (tgt := 1260) hx hb dL_law_960 (by decide) (fun _ => kk wx1 wm1 H locs hI1 hP hD hS) (fun h => absurd rfl h)
set_option maxRecDepth 100000 in
theorem lc_two {p : Program} {l : Launch} {e : Env} {s : State} {m : MethodId} {below : List Frame} {meth : Method} {c : Code} {D : va_G} {cI : ClassId} {b L : Nat} {xs : Nat → Int32} {a bb : Nat → Nat} {wx wm : va_W} {H : Heap} {locs : List Loc} {ls : Array Slot} {i : Nat} (hL : L ≤ 2560) (CF : CallFix p m c cL_law 4 s #[Value.ref b] wsL_law RL) (hX : va_X b L xs s s.heap) (hbl : b < s.heap.size) (hK : va_K D vwCl [(cI, .int)] s) (hI : IW a bb cI wx wm) (hP : va_P D vwCl (wx ++ wm) H) (hD : va_D (fun q : Nat => s.heap.size ≤ q) (wx ++ wm)) (hS : va_S (fun q : Nat => s.heap.size ≤ q) s.heap H locs) (hl : lv_has ls 4 [(0, .ref b), (1, .ref (a 0)), (2, .ref (bb 0)), (3, .int (nI i))]) (hi5 : i + 5 ≤ L)
    (kk : ∀ (wx1 wm1 : va_W) (H1 : Heap) (locs1 : List Loc), IW a bb cI wx1 wm1 → va_P D vwCl (wx1 ++ wm1) H1 → va_D (fun q : Nat => s.heap.size ≤ q) (wx1 ++ wm1) → va_S (fun q : Nat => s.heap.size ≤ q) s.heap H1 locs1 → W p l e room_1 s m #[Value.ref b] below meth c H1 locs1 44 1382 (lw_Z below #[Value.ref b] s) (F0 m 1260 ls [])) : W p l e room_1 s m #[Value.ref b] below meth c H locs 44 1382 (lw_Z below #[Value.ref b] s) (F0 m 965 ls []) := by
  obtain ⟨hx, hb, hml, hown, hts⟩ := id CF
  have hA : ∀ q : Nat, s.heap.size ≤ q → (fun q : Nat => s.heap.size ≤ q) q := fun _ h => h
  obtain ⟨wx1, wm1, r, c1, c2, hI1, m1, m2⟩ := p_two l D hI (xs (i + 1)) (xs (i + 2)) (xs (i + 3))
  obtain ⟨f1, g1⟩ := hI.x0 wm
  obtain ⟨f2, g2⟩ := hI.m0 wx1
  refine lv_aload_n hx hb dL_law_965 rfl (lv_at hl 1 rfl) ?_
  refine ldA (pc := 966) (k := 1) hL CF hX hbl hS hl (ad1 i) (by omega) (by decide) dL_law_966 dL_law_967 dL_law_968 dL_law_969 dL_law_970 ?_
  refine ldA (pc := 971) (k := 2) hL CF hX hbl hS hl (ad2 i) (by omega) (by decide) dL_law_971 dL_law_972 dL_law_973 dL_law_974 dL_law_975 ?_
  refine ldA (pc := 976) (k := 3) hL CF hX hbl hS hl (ad3 i) (by omega) (by decide) dL_law_976 dL_law_977 dL_law_978 dL_law_979 dL_law_980 ?_
  refine kVI (n := 3) (As := [.int (xs (i + 1)), .int (xs (i + 2)), .int (xs (i + 3))]) (rest := []) CF hl hK hP hD hS hA c1 gL_law_X3_two rfl dL_law_981 (by decide +kernel) ⟨⟨rfl, rfl⟩, ⟨Nat.le_of_ble_eq_true rfl, Nat.le_of_ble_eq_true rfl⟩, Nat.le_of_ble_eq_true rfl, Nat.le_of_ble_eq_true rfl⟩ (JN.appL m1) 0 g1 ⟨rfl, rfl⟩ rfl rfl (Nat.le_of_ble_eq_true rfl) (fun H locs hP hD hS => ?_)
  refine lv_aload_n hx hb dL_law_984 rfl (lv_at hl 2 rfl) ?_
  refine ldA (pc := 985) (k := 1) hL CF hX hbl hS hl (ad1 i) (by omega) (by decide) dL_law_985 dL_law_986 dL_law_987 dL_law_988 dL_law_989 ?_
  refine ldA (pc := 990) (k := 2) hL CF hX hbl hS hl (ad2 i) (by omega) (by decide) dL_law_990 dL_law_991 dL_law_992 dL_law_993 dL_law_994 ?_
  refine ldA (pc := 995) (k := 3) hL CF hX hbl hS hl (ad3 i) (by omega) (by decide) dL_law_995 dL_law_996 dL_law_997 dL_law_998 dL_law_999 ?_
  refine kVI (n := 3) (As := [.int (xs (i + 1)), .int (xs (i + 2)), .int (xs (i + 3))]) (rest := [.int r]) CF hl hK hP hD hS hA c2 gL_law_X4_two rfl dL_law_1000 (by decide +kernel) ⟨⟨rfl, rfl⟩, ⟨Nat.le_of_ble_eq_true rfl, Nat.le_of_ble_eq_true rfl⟩, Nat.le_of_ble_eq_true rfl, Nat.le_of_ble_eq_true rfl⟩ (JN.appR m2) wx1.length g2 ⟨rfl, rfl⟩ rfl rfl (Nat.le_of_ble_eq_true rfl) (fun H locs hP hD hS => ?_)
  exact lv_icmp_eq (tgt := 1260) hx hb dL_law_1003 (by decide) (fun _ => kk wx1 wm1 H locs hI1 hP hD hS) (fun h => absurd rfl h)
set_option maxRecDepth 100000 in
theorem lc_storm {p : Program} {l : Launch} {e : Env} {s : State} {m : MethodId} {below : List Frame} {meth : Method} {c : Code} {D : va_G} {cI : ClassId} {b L : Nat} {xs : Nat → Int32} {a bb : Nat → Nat} {wx wm : va_W} {H : Heap} {locs : List Loc} {ls : Array Slot} {i : Nat} (hL : L ≤ 2560) (CF : CallFix p m c cL_law 4 s #[Value.ref b] wsL_law RL) (hX : va_X b L xs s s.heap) (hbl : b < s.heap.size) (hK : va_K D vwCl [(cI, .int)] s) (hI : IW a bb cI wx wm) (hP : va_P D vwCl (wx ++ wm) H) (hD : va_D (fun q : Nat => s.heap.size ≤ q) (wx ++ wm)) (hS : va_S (fun q : Nat => s.heap.size ≤ q) s.heap H locs) (hl : lv_has ls 4 [(0, .ref b), (1, .ref (a 0)), (2, .ref (bb 0)), (3, .int (nI i))]) (hi5 : i + 5 ≤ L)
    (kk : ∀ (wx1 wm1 : va_W) (H1 : Heap) (locs1 : List Loc), IW a bb cI wx1 wm1 → va_P D vwCl (wx1 ++ wm1) H1 → va_D (fun q : Nat => s.heap.size ≤ q) (wx1 ++ wm1) → va_S (fun q : Nat => s.heap.size ≤ q) s.heap H1 locs1 → W p l e room_1 s m #[Value.ref b] below meth c H1 locs1 44 1382 (lw_Z below #[Value.ref b] s) (F0 m 1260 ls [])) : W p l e room_1 s m #[Value.ref b] below meth c H locs 44 1382 (lw_Z below #[Value.ref b] s) (F0 m 1008 ls []) := by
  obtain ⟨hx, hb, hml, hown, hts⟩ := id CF
  have hA : ∀ q : Nat, s.heap.size ≤ q → (fun q : Nat => s.heap.size ≤ q) q := fun _ h => h
  obtain ⟨wx1, wm1, r, c1, c2, hI1, m1, m2⟩ := p_storm l D hI (xs (i + 1)) (xs (i + 2)) (xs (i + 3)) (xs (i + 4))
  obtain ⟨f1, g1⟩ := hI.x0 wm
  obtain ⟨f2, g2⟩ := hI.m0 wx1
  refine lv_aload_n hx hb dL_law_1008 rfl (lv_at hl 1 rfl) ?_
  refine ldA (pc := 1009) (k := 1) hL CF hX hbl hS hl (ad1 i) (by omega) (by decide) dL_law_1009 dL_law_1010 dL_law_1011 dL_law_1012 dL_law_1013 ?_
  refine ldA (pc := 1014) (k := 2) hL CF hX hbl hS hl (ad2 i) (by omega) (by decide) dL_law_1014 dL_law_1015 dL_law_1016 dL_law_1017 dL_law_1018 ?_
  refine ldA (pc := 1019) (k := 3) hL CF hX hbl hS hl (ad3 i) (by omega) (by decide) dL_law_1019 dL_law_1020 dL_law_1021 dL_law_1022 dL_law_1023 ?_
  refine ldA (pc := 1024) (k := 4) hL CF hX hbl hS hl (ad4 i) (by omega) (by decide) dL_law_1024 dL_law_1025 dL_law_1026 dL_law_1027 dL_law_1028 ?_
  refine kVL (n := 4) (As := [.int (xs (i + 1)), .int (xs (i + 2)), .int (xs (i + 3)), .int (xs (i + 4))]) (rest := []) CF hl hK hP hD hS hA c1 gL_law_X3_storm rfl dL_law_1029 (by decide +kernel) ⟨⟨rfl, rfl⟩, ⟨Nat.le_of_ble_eq_true rfl, Nat.le_of_ble_eq_true rfl⟩, Nat.le_of_ble_eq_true rfl, Nat.le_of_ble_eq_true rfl⟩ (JN.appL m1) 0 g1 ⟨rfl, rfl⟩ rfl rfl (Nat.le_of_ble_eq_true rfl) (fun H locs hP hD hS => ?_)
  refine lv_aload_n hx hb dL_law_1032 rfl (lv_at hl 2 rfl) ?_
  refine ldA (pc := 1033) (k := 1) hL CF hX hbl hS hl (ad1 i) (by omega) (by decide) dL_law_1033 dL_law_1034 dL_law_1035 dL_law_1036 dL_law_1037 ?_
  refine ldA (pc := 1038) (k := 2) hL CF hX hbl hS hl (ad2 i) (by omega) (by decide) dL_law_1038 dL_law_1039 dL_law_1040 dL_law_1041 dL_law_1042 ?_
  refine ldA (pc := 1043) (k := 3) hL CF hX hbl hS hl (ad3 i) (by omega) (by decide) dL_law_1043 dL_law_1044 dL_law_1045 dL_law_1046 dL_law_1047 ?_
  refine ldA (pc := 1048) (k := 4) hL CF hX hbl hS hl (ad4 i) (by omega) (by decide) dL_law_1048 dL_law_1049 dL_law_1050 dL_law_1051 dL_law_1052 ?_
  refine kVL (n := 4) (As := [.int (xs (i + 1)), .int (xs (i + 2)), .int (xs (i + 3)), .int (xs (i + 4))]) (rest := [.long r]) CF hl hK hP hD hS hA c2 gL_law_X4_storm rfl dL_law_1053 (by decide +kernel) ⟨⟨rfl, rfl⟩, ⟨Nat.le_of_ble_eq_true rfl, Nat.le_of_ble_eq_true rfl⟩, Nat.le_of_ble_eq_true rfl, Nat.le_of_ble_eq_true rfl⟩ (JN.appR m2) wx1.length g2 ⟨rfl, rfl⟩ rfl rfl (Nat.le_of_ble_eq_true rfl) (fun H locs hP hD hS => ?_)
  refine W.lcmp hx hb dL_law_1056 ?_
  refine lv_if_eq (tgt := 1260) hx hb dL_law_1057 (by decide) (fun _ => kk wx1 wm1 H locs hI1 hP hD hS) (fun h => absurd (lg_self r) h)
set_option maxRecDepth 100000 in
theorem lc_mean {p : Program} {l : Launch} {e : Env} {s : State} {m : MethodId} {below : List Frame} {meth : Method} {c : Code} {D : va_G} {cI : ClassId} {b L : Nat} {xs : Nat → Int32} {a bb : Nat → Nat} {wx wm : va_W} {H : Heap} {locs : List Loc} {ls : Array Slot} {i : Nat} (hL : L ≤ 2560) (CF : CallFix p m c cL_law 4 s #[Value.ref b] wsL_law RL) (hX : va_X b L xs s s.heap) (hbl : b < s.heap.size) (hK : va_K D vwCl [(cI, .int)] s) (hI : IW a bb cI wx wm) (hP : va_P D vwCl (wx ++ wm) H) (hD : va_D (fun q : Nat => s.heap.size ≤ q) (wx ++ wm)) (hS : va_S (fun q : Nat => s.heap.size ≤ q) s.heap H locs) (hl : lv_has ls 4 [(0, .ref b), (1, .ref (a 0)), (2, .ref (bb 0)), (3, .int (nI i))]) (hi5 : i + 5 ≤ L)
    (kk : ∀ (wx1 wm1 : va_W) (H1 : Heap) (locs1 : List Loc), IW a bb cI wx1 wm1 → va_P D vwCl (wx1 ++ wm1) H1 → va_D (fun q : Nat => s.heap.size ≤ q) (wx1 ++ wm1) → va_S (fun q : Nat => s.heap.size ≤ q) s.heap H1 locs1 → W p l e room_1 s m #[Value.ref b] below meth c H1 locs1 44 1382 (lw_Z below #[Value.ref b] s) (F0 m 1260 ls [])) : W p l e room_1 s m #[Value.ref b] below meth c H locs 44 1382 (lw_Z below #[Value.ref b] s) (F0 m 1062 ls []) := by
  obtain ⟨hx, hb, hml, hown, hts⟩ := id CF
  have hA : ∀ q : Nat, s.heap.size ≤ q → (fun q : Nat => s.heap.size ≤ q) q := fun _ h => h
  obtain ⟨wx1, wm1, r, c1, c2, hI1, m1, m2⟩ := p_mean l D hI (xs (i + 1))
  obtain ⟨f1, g1⟩ := hI.x0 wm
  obtain ⟨f2, g2⟩ := hI.m0 wx1
  refine lv_aload_n hx hb dL_law_1062 rfl (lv_at hl 1 rfl) ?_
  refine ldA (pc := 1063) (k := 1) hL CF hX hbl hS hl (ad1 i) (by omega) (by decide) dL_law_1063 dL_law_1064 dL_law_1065 dL_law_1066 dL_law_1067 ?_
  refine kVL (n := 1) (As := [.int (xs (i + 1))]) (rest := []) CF hl hK hP hD hS hA c1 gL_law_X3_mean rfl dL_law_1068 (by decide +kernel) ⟨⟨rfl, rfl⟩, ⟨Nat.le_of_ble_eq_true rfl, Nat.le_of_ble_eq_true rfl⟩, Nat.le_of_ble_eq_true rfl, Nat.le_of_ble_eq_true rfl⟩ (JN.appL m1) 0 g1 ⟨rfl, rfl⟩ rfl rfl (Nat.le_of_ble_eq_true rfl) (fun H locs hP hD hS => ?_)
  refine lv_aload_n hx hb dL_law_1071 rfl (lv_at hl 2 rfl) ?_
  refine ldA (pc := 1072) (k := 1) hL CF hX hbl hS hl (ad1 i) (by omega) (by decide) dL_law_1072 dL_law_1073 dL_law_1074 dL_law_1075 dL_law_1076 ?_
  refine kVL (n := 1) (As := [.int (xs (i + 1))]) (rest := [.long r]) CF hl hK hP hD hS hA c2 gL_law_X4_mean rfl dL_law_1077 (by decide +kernel) ⟨⟨rfl, rfl⟩, ⟨Nat.le_of_ble_eq_true rfl, Nat.le_of_ble_eq_true rfl⟩, Nat.le_of_ble_eq_true rfl, Nat.le_of_ble_eq_true rfl⟩ (JN.appR m2) wx1.length g2 ⟨rfl, rfl⟩ rfl rfl (Nat.le_of_ble_eq_true rfl) (fun H locs hP hD hS => ?_)
  refine W.lcmp hx hb dL_law_1080 ?_
  refine lv_if_eq (tgt := 1260) hx hb dL_law_1081 (by decide) (fun _ => kk wx1 wm1 H locs hI1 hP hD hS) (fun h => absurd (lg_self r) h)
set_option maxRecDepth 100000 in
theorem lc_whatIs {p : Program} {l : Launch} {e : Env} {s : State} {m : MethodId} {below : List Frame} {meth : Method} {c : Code} {D : va_G} {cI : ClassId} {b L : Nat} {xs : Nat → Int32} {a bb : Nat → Nat} {wx wm : va_W} {H : Heap} {locs : List Loc} {ls : Array Slot} {i : Nat} (hL : L ≤ 2560) (CF : CallFix p m c cL_law 4 s #[Value.ref b] wsL_law RL) (hX : va_X b L xs s s.heap) (hbl : b < s.heap.size) (hK : va_K D vwCl [(cI, .int)] s) (hI : IW a bb cI wx wm) (hP : va_P D vwCl (wx ++ wm) H) (hD : va_D (fun q : Nat => s.heap.size ≤ q) (wx ++ wm)) (hS : va_S (fun q : Nat => s.heap.size ≤ q) s.heap H locs) (hl : lv_has ls 4 [(0, .ref b), (1, .ref (a 0)), (2, .ref (bb 0)), (3, .int (nI i))]) (hi5 : i + 5 ≤ L)
    (kk : ∀ (wx1 wm1 : va_W) (H1 : Heap) (locs1 : List Loc), IW a bb cI wx1 wm1 → va_P D vwCl (wx1 ++ wm1) H1 → va_D (fun q : Nat => s.heap.size ≤ q) (wx1 ++ wm1) → va_S (fun q : Nat => s.heap.size ≤ q) s.heap H1 locs1 → W p l e room_1 s m #[Value.ref b] below meth c H1 locs1 44 1382 (lw_Z below #[Value.ref b] s) (F0 m 1260 ls [])) : W p l e room_1 s m #[Value.ref b] below meth c H locs 44 1382 (lw_Z below #[Value.ref b] s) (F0 m 1086 ls []) := by
  obtain ⟨hx, hb, hml, hown, hts⟩ := id CF
  have hA : ∀ q : Nat, s.heap.size ≤ q → (fun q : Nat => s.heap.size ≤ q) q := fun _ h => h
  obtain ⟨wx1, wm1, r, c1, c2, hI1, m1, m2⟩ := p_whatIs l D hI (xs (i + 1)) (xs (i + 2))
  obtain ⟨f1, g1⟩ := hI.x0 wm
  obtain ⟨f2, g2⟩ := hI.m0 wx1
  refine lv_aload_n hx hb dL_law_1086 rfl (lv_at hl 1 rfl) ?_
  refine ldA (pc := 1087) (k := 1) hL CF hX hbl hS hl (ad1 i) (by omega) (by decide) dL_law_1087 dL_law_1088 dL_law_1089 dL_law_1090 dL_law_1091 ?_
  refine ldA (pc := 1092) (k := 2) hL CF hX hbl hS hl (ad2 i) (by omega) (by decide) dL_law_1092 dL_law_1093 dL_law_1094 dL_law_1095 dL_law_1096 ?_
  refine kVI (n := 2) (As := [.int (xs (i + 1)), .int (xs (i + 2))]) (rest := []) CF hl hK hP hD hS hA c1 gL_law_X3_whatIs rfl dL_law_1097 (by decide +kernel) ⟨⟨rfl, rfl⟩, ⟨Nat.le_of_ble_eq_true rfl, Nat.le_of_ble_eq_true rfl⟩, Nat.le_of_ble_eq_true rfl, Nat.le_of_ble_eq_true rfl⟩ (JN.appL m1) 0 g1 ⟨rfl, rfl⟩ rfl rfl (Nat.le_of_ble_eq_true rfl) (fun H locs hP hD hS => ?_)
  refine lv_aload_n hx hb dL_law_1100 rfl (lv_at hl 2 rfl) ?_
  refine ldA (pc := 1101) (k := 1) hL CF hX hbl hS hl (ad1 i) (by omega) (by decide) dL_law_1101 dL_law_1102 dL_law_1103 dL_law_1104 dL_law_1105 ?_
  refine ldA (pc := 1106) (k := 2) hL CF hX hbl hS hl (ad2 i) (by omega) (by decide) dL_law_1106 dL_law_1107 dL_law_1108 dL_law_1109 dL_law_1110 ?_
  refine kVI (n := 2) (As := [.int (xs (i + 1)), .int (xs (i + 2))]) (rest := [.int r]) CF hl hK hP hD hS hA c2 gL_law_X4_whatIs rfl dL_law_1111 (by decide +kernel) ⟨⟨rfl, rfl⟩, ⟨Nat.le_of_ble_eq_true rfl, Nat.le_of_ble_eq_true rfl⟩, Nat.le_of_ble_eq_true rfl, Nat.le_of_ble_eq_true rfl⟩ (JN.appR m2) wx1.length g2 ⟨rfl, rfl⟩ rfl rfl (Nat.le_of_ble_eq_true rfl) (fun H locs hP hD hS => ?_)
  exact lv_icmp_eq (tgt := 1260) hx hb dL_law_1114 (by decide) (fun _ => kk wx1 wm1 H locs hI1 hP hD hS) (fun h => absurd rfl h)
set_option maxRecDepth 100000 in
theorem lc_row {p : Program} {l : Launch} {e : Env} {s : State} {m : MethodId} {below : List Frame} {meth : Method} {c : Code} {D : va_G} {cI : ClassId} {b L : Nat} {xs : Nat → Int32} {a bb : Nat → Nat} {wx wm : va_W} {H : Heap} {locs : List Loc} {ls : Array Slot} {i : Nat} (hL : L ≤ 2560) (CF : CallFix p m c cL_law 4 s #[Value.ref b] wsL_law RL) (hX : va_X b L xs s s.heap) (hbl : b < s.heap.size) (hK : va_K D vwCl [(cI, .int)] s) (hI : IW a bb cI wx wm) (hP : va_P D vwCl (wx ++ wm) H) (hD : va_D (fun q : Nat => s.heap.size ≤ q) (wx ++ wm)) (hS : va_S (fun q : Nat => s.heap.size ≤ q) s.heap H locs) (hl : lv_has ls 4 [(0, .ref b), (1, .ref (a 0)), (2, .ref (bb 0)), (3, .int (nI i))]) (hi5 : i + 5 ≤ L)
    (kk : ∀ (wx1 wm1 : va_W) (H1 : Heap) (locs1 : List Loc), IW a bb cI wx1 wm1 → va_P D vwCl (wx1 ++ wm1) H1 → va_D (fun q : Nat => s.heap.size ≤ q) (wx1 ++ wm1) → va_S (fun q : Nat => s.heap.size ≤ q) s.heap H1 locs1 → W p l e room_1 s m #[Value.ref b] below meth c H1 locs1 44 1382 (lw_Z below #[Value.ref b] s) (F0 m 1260 ls [])) : W p l e room_1 s m #[Value.ref b] below meth c H locs 44 1382 (lw_Z below #[Value.ref b] s) (F0 m 1119 ls []) := by
  obtain ⟨hx, hb, hml, hown, hts⟩ := id CF
  have hA : ∀ q : Nat, s.heap.size ≤ q → (fun q : Nat => s.heap.size ≤ q) q := fun _ h => h
  obtain ⟨wx1, wm1, r, c1, c2, hI1, m1, m2⟩ := p_row l D hI (xs (i + 1))
  obtain ⟨f1, g1⟩ := hI.x0 wm
  obtain ⟨f2, g2⟩ := hI.m0 wx1
  refine lv_aload_n hx hb dL_law_1119 rfl (lv_at hl 1 rfl) ?_
  refine ldA (pc := 1120) (k := 1) hL CF hX hbl hS hl (ad1 i) (by omega) (by decide) dL_law_1120 dL_law_1121 dL_law_1122 dL_law_1123 dL_law_1124 ?_
  refine kVI (n := 1) (As := [.int (xs (i + 1))]) (rest := []) CF hl hK hP hD hS hA c1 gL_law_X3_row rfl dL_law_1125 (by decide +kernel) ⟨⟨rfl, rfl⟩, ⟨Nat.le_of_ble_eq_true rfl, Nat.le_of_ble_eq_true rfl⟩, Nat.le_of_ble_eq_true rfl, Nat.le_of_ble_eq_true rfl⟩ (JN.appL m1) 0 g1 ⟨rfl, rfl⟩ rfl rfl (Nat.le_of_ble_eq_true rfl) (fun H locs hP hD hS => ?_)
  refine lv_aload_n hx hb dL_law_1128 rfl (lv_at hl 2 rfl) ?_
  refine ldA (pc := 1129) (k := 1) hL CF hX hbl hS hl (ad1 i) (by omega) (by decide) dL_law_1129 dL_law_1130 dL_law_1131 dL_law_1132 dL_law_1133 ?_
  refine kVI (n := 1) (As := [.int (xs (i + 1))]) (rest := [.int r]) CF hl hK hP hD hS hA c2 gL_law_X4_row rfl dL_law_1134 (by decide +kernel) ⟨⟨rfl, rfl⟩, ⟨Nat.le_of_ble_eq_true rfl, Nat.le_of_ble_eq_true rfl⟩, Nat.le_of_ble_eq_true rfl, Nat.le_of_ble_eq_true rfl⟩ (JN.appR m2) wx1.length g2 ⟨rfl, rfl⟩ rfl rfl (Nat.le_of_ble_eq_true rfl) (fun H locs hP hD hS => ?_)
  exact lv_icmp_eq (tgt := 1260) hx hb dL_law_1137 (by decide) (fun _ => kk wx1 wm1 H locs hI1 hP hD hS) (fun h => absurd rfl h)
set_option maxRecDepth 100000 in
theorem lc_judge {p : Program} {l : Launch} {e : Env} {s : State} {m : MethodId} {below : List Frame} {meth : Method} {c : Code} {D : va_G} {cI : ClassId} {b L : Nat} {xs : Nat → Int32} {a bb : Nat → Nat} {wx wm : va_W} {H : Heap} {locs : List Loc} {ls : Array Slot} {i : Nat} (hL : L ≤ 2560) (CF : CallFix p m c cL_law 4 s #[Value.ref b] wsL_law RL) (hX : va_X b L xs s s.heap) (hbl : b < s.heap.size) (hK : va_K D vwCl [(cI, .int)] s) (hI : IW a bb cI wx wm) (hP : va_P D vwCl (wx ++ wm) H) (hD : va_D (fun q : Nat => s.heap.size ≤ q) (wx ++ wm)) (hS : va_S (fun q : Nat => s.heap.size ≤ q) s.heap H locs) (hl : lv_has ls 4 [(0, .ref b), (1, .ref (a 0)), (2, .ref (bb 0)), (3, .int (nI i))]) (hi5 : i + 5 ≤ L)
    (kk : ∀ (wx1 wm1 : va_W) (H1 : Heap) (locs1 : List Loc), IW a bb cI wx1 wm1 → va_P D vwCl (wx1 ++ wm1) H1 → va_D (fun q : Nat => s.heap.size ≤ q) (wx1 ++ wm1) → va_S (fun q : Nat => s.heap.size ≤ q) s.heap H1 locs1 → W p l e room_1 s m #[Value.ref b] below meth c H1 locs1 44 1382 (lw_Z below #[Value.ref b] s) (F0 m 1260 ls [])) : W p l e room_1 s m #[Value.ref b] below meth c H locs 44 1382 (lw_Z below #[Value.ref b] s) (F0 m 1142 ls []) := by
  obtain ⟨hx, hb, hml, hown, hts⟩ := id CF
  have hA : ∀ q : Nat, s.heap.size ≤ q → (fun q : Nat => s.heap.size ≤ q) q := fun _ h => h
  obtain ⟨wx1, wm1, r, c1, c2, hI1, m1, m2⟩ := p_judge l D hI
  obtain ⟨f1, g1⟩ := hI.x0 wm
  obtain ⟨f2, g2⟩ := hI.m0 wx1
  refine lv_aload_n hx hb dL_law_1142 rfl (lv_at hl 1 rfl) ?_
  refine kVI (n := 0) (As := []) (rest := []) CF hl hK hP hD hS hA c1 gL_law_X3_judge rfl dL_law_1143 (by decide +kernel) ⟨⟨rfl, rfl⟩, ⟨Nat.le_of_ble_eq_true rfl, Nat.le_of_ble_eq_true rfl⟩, Nat.le_of_ble_eq_true rfl, Nat.le_of_ble_eq_true rfl⟩ (JN.appL m1) 0 g1 ⟨rfl, rfl⟩ rfl rfl (Nat.le_of_ble_eq_true rfl) (fun H locs hP hD hS => ?_)
  refine lv_aload_n hx hb dL_law_1146 rfl (lv_at hl 2 rfl) ?_
  refine kVI (n := 0) (As := []) (rest := [.int r]) CF hl hK hP hD hS hA c2 gL_law_X4_judge rfl dL_law_1147 (by decide +kernel) ⟨⟨rfl, rfl⟩, ⟨Nat.le_of_ble_eq_true rfl, Nat.le_of_ble_eq_true rfl⟩, Nat.le_of_ble_eq_true rfl, Nat.le_of_ble_eq_true rfl⟩ (JN.appR m2) wx1.length g2 ⟨rfl, rfl⟩ rfl rfl (Nat.le_of_ble_eq_true rfl) (fun H locs hP hD hS => ?_)
  exact lv_icmp_eq (tgt := 1260) hx hb dL_law_1150 (by decide) (fun _ => kk wx1 wm1 H locs hI1 hP hD hS) (fun h => absurd rfl h)
set_option maxRecDepth 100000 in
theorem lc_clear {p : Program} {l : Launch} {e : Env} {s : State} {m : MethodId} {below : List Frame} {meth : Method} {c : Code} {D : va_G} {cI : ClassId} {b L : Nat} {xs : Nat → Int32} {a bb : Nat → Nat} {wx wm : va_W} {H : Heap} {locs : List Loc} {ls : Array Slot} {i : Nat} (hL : L ≤ 2560) (CF : CallFix p m c cL_law 4 s #[Value.ref b] wsL_law RL) (hX : va_X b L xs s s.heap) (hbl : b < s.heap.size) (hK : va_K D vwCl [(cI, .int)] s) (hI : IW a bb cI wx wm) (hP : va_P D vwCl (wx ++ wm) H) (hD : va_D (fun q : Nat => s.heap.size ≤ q) (wx ++ wm)) (hS : va_S (fun q : Nat => s.heap.size ≤ q) s.heap H locs) (hl : lv_has ls 4 [(0, .ref b), (1, .ref (a 0)), (2, .ref (bb 0)), (3, .int (nI i))]) (hi5 : i + 5 ≤ L)
    (kk : ∀ (wx1 wm1 : va_W) (H1 : Heap) (locs1 : List Loc), IW a bb cI wx1 wm1 → va_P D vwCl (wx1 ++ wm1) H1 → va_D (fun q : Nat => s.heap.size ≤ q) (wx1 ++ wm1) → va_S (fun q : Nat => s.heap.size ≤ q) s.heap H1 locs1 → W p l e room_1 s m #[Value.ref b] below meth c H1 locs1 44 1382 (lw_Z below #[Value.ref b] s) (F0 m 1260 ls [])) : W p l e room_1 s m #[Value.ref b] below meth c H locs 44 1382 (lw_Z below #[Value.ref b] s) (F0 m 1155 ls []) := by
  obtain ⟨hx, hb, hml, hown, hts⟩ := id CF
  have hA : ∀ q : Nat, s.heap.size ≤ q → (fun q : Nat => s.heap.size ≤ q) q := fun _ h => h
  obtain ⟨wx1, wm1, r, c1, c2, hI1, m1, m2⟩ := p_clear l D hI
  obtain ⟨f1, g1⟩ := hI.x0 wm
  obtain ⟨f2, g2⟩ := hI.m0 wx1
  refine lv_aload_n hx hb dL_law_1155 rfl (lv_at hl 1 rfl) ?_
  refine kVI (n := 0) (As := []) (rest := []) CF hl hK hP hD hS hA c1 gL_law_X3_clear rfl dL_law_1156 (by decide +kernel) ⟨⟨rfl, rfl⟩, ⟨Nat.le_of_ble_eq_true rfl, Nat.le_of_ble_eq_true rfl⟩, Nat.le_of_ble_eq_true rfl, Nat.le_of_ble_eq_true rfl⟩ (JN.appL m1) 0 g1 ⟨rfl, rfl⟩ rfl rfl (Nat.le_of_ble_eq_true rfl) (fun H locs hP hD hS => ?_)
  refine lv_aload_n hx hb dL_law_1159 rfl (lv_at hl 2 rfl) ?_
  refine kVI (n := 0) (As := []) (rest := [.int r]) CF hl hK hP hD hS hA c2 gL_law_X4_clear rfl dL_law_1160 (by decide +kernel) ⟨⟨rfl, rfl⟩, ⟨Nat.le_of_ble_eq_true rfl, Nat.le_of_ble_eq_true rfl⟩, Nat.le_of_ble_eq_true rfl, Nat.le_of_ble_eq_true rfl⟩ (JN.appR m2) wx1.length g2 ⟨rfl, rfl⟩ rfl rfl (Nat.le_of_ble_eq_true rfl) (fun H locs hP hD hS => ?_)
  exact lv_icmp_eq (tgt := 1260) hx hb dL_law_1163 (by decide) (fun _ => kk wx1 wm1 H locs hI1 hP hD hS) (fun h => absurd rfl h)
set_option maxRecDepth 100000 in
theorem lc_lots {p : Program} {l : Launch} {e : Env} {s : State} {m : MethodId} {below : List Frame} {meth : Method} {c : Code} {D : va_G} {cI : ClassId} {b L : Nat} {xs : Nat → Int32} {a bb : Nat → Nat} {wx wm : va_W} {H : Heap} {locs : List Loc} {ls : Array Slot} {i : Nat} (hL : L ≤ 2560) (CF : CallFix p m c cL_law 4 s #[Value.ref b] wsL_law RL) (hX : va_X b L xs s s.heap) (hbl : b < s.heap.size) (hK : va_K D vwCl [(cI, .int)] s) (hI : IW a bb cI wx wm) (hP : va_P D vwCl (wx ++ wm) H) (hD : va_D (fun q : Nat => s.heap.size ≤ q) (wx ++ wm)) (hS : va_S (fun q : Nat => s.heap.size ≤ q) s.heap H locs) (hl : lv_has ls 4 [(0, .ref b), (1, .ref (a 0)), (2, .ref (bb 0)), (3, .int (nI i))]) (hi5 : i + 5 ≤ L)
    (kk : ∀ (wx1 wm1 : va_W) (H1 : Heap) (locs1 : List Loc), IW a bb cI wx1 wm1 → va_P D vwCl (wx1 ++ wm1) H1 → va_D (fun q : Nat => s.heap.size ≤ q) (wx1 ++ wm1) → va_S (fun q : Nat => s.heap.size ≤ q) s.heap H1 locs1 → W p l e room_1 s m #[Value.ref b] below meth c H1 locs1 44 1382 (lw_Z below #[Value.ref b] s) (F0 m 1260 ls [])) : W p l e room_1 s m #[Value.ref b] below meth c H locs 44 1382 (lw_Z below #[Value.ref b] s) (F0 m 1168 ls []) := by
  obtain ⟨hx, hb, hml, hown, hts⟩ := id CF
  have hA : ∀ q : Nat, s.heap.size ≤ q → (fun q : Nat => s.heap.size ≤ q) q := fun _ h => h
  obtain ⟨wx1, wm1, r, c1, c2, hI1, m1, m2⟩ := p_lots l D hI (xs (i + 1)) (xs (i + 2)) (xs (i + 3))
  obtain ⟨f1, g1⟩ := hI.x0 wm
  obtain ⟨f2, g2⟩ := hI.m0 wx1
  refine lv_aload_n hx hb dL_law_1168 rfl (lv_at hl 1 rfl) ?_
  refine ldA (pc := 1169) (k := 1) hL CF hX hbl hS hl (ad1 i) (by omega) (by decide) dL_law_1169 dL_law_1170 dL_law_1171 dL_law_1172 dL_law_1173 ?_
  refine ldA (pc := 1174) (k := 2) hL CF hX hbl hS hl (ad2 i) (by omega) (by decide) dL_law_1174 dL_law_1175 dL_law_1176 dL_law_1177 dL_law_1178 ?_
  refine ldA (pc := 1179) (k := 3) hL CF hX hbl hS hl (ad3 i) (by omega) (by decide) dL_law_1179 dL_law_1180 dL_law_1181 dL_law_1182 dL_law_1183 ?_
  refine kVI (n := 3) (As := [.int (xs (i + 1)), .int (xs (i + 2)), .int (xs (i + 3))]) (rest := []) CF hl hK hP hD hS hA c1 gL_law_X3_lots rfl dL_law_1184 (by decide +kernel) ⟨⟨rfl, rfl⟩, ⟨Nat.le_of_ble_eq_true rfl, Nat.le_of_ble_eq_true rfl⟩, Nat.le_of_ble_eq_true rfl, Nat.le_of_ble_eq_true rfl⟩ (JN.appL m1) 0 g1 ⟨rfl, rfl⟩ rfl rfl (Nat.le_of_ble_eq_true rfl) (fun H locs hP hD hS => ?_)
  refine lv_aload_n hx hb dL_law_1187 rfl (lv_at hl 2 rfl) ?_
  refine ldA (pc := 1188) (k := 1) hL CF hX hbl hS hl (ad1 i) (by omega) (by decide) dL_law_1188 dL_law_1189 dL_law_1190 dL_law_1191 dL_law_1192 ?_
  refine ldA (pc := 1193) (k := 2) hL CF hX hbl hS hl (ad2 i) (by omega) (by decide) dL_law_1193 dL_law_1194 dL_law_1195 dL_law_1196 dL_law_1197 ?_
  refine ldA (pc := 1198) (k := 3) hL CF hX hbl hS hl (ad3 i) (by omega) (by decide) dL_law_1198 dL_law_1199 dL_law_1200 dL_law_1201 dL_law_1202 ?_
  refine kVI (n := 3) (As := [.int (xs (i + 1)), .int (xs (i + 2)), .int (xs (i + 3))]) (rest := [.int r]) CF hl hK hP hD hS hA c2 gL_law_X4_lots rfl dL_law_1203 (by decide +kernel) ⟨⟨rfl, rfl⟩, ⟨Nat.le_of_ble_eq_true rfl, Nat.le_of_ble_eq_true rfl⟩, Nat.le_of_ble_eq_true rfl, Nat.le_of_ble_eq_true rfl⟩ (JN.appR m2) wx1.length g2 ⟨rfl, rfl⟩ rfl rfl (Nat.le_of_ble_eq_true rfl) (fun H locs hP hD hS => ?_)
  exact lv_icmp_eq (tgt := 1260) hx hb dL_law_1206 (by decide) (fun _ => kk wx1 wm1 H locs hI1 hP hD hS) (fun h => absurd rfl h)
set_option maxRecDepth 100000 in
theorem lc_image {p : Program} {l : Launch} {e : Env} {s : State} {m : MethodId} {below : List Frame} {meth : Method} {c : Code} {D : va_G} {cI : ClassId} {b L : Nat} {xs : Nat → Int32} {a bb : Nat → Nat} {wx wm : va_W} {H : Heap} {locs : List Loc} {ls : Array Slot} {i : Nat} (hL : L ≤ 2560) (CF : CallFix p m c cL_law 4 s #[Value.ref b] wsL_law RL) (hX : va_X b L xs s s.heap) (hbl : b < s.heap.size) (hK : va_K D vwCl [(cI, .int)] s) (hI : IW a bb cI wx wm) (hP : va_P D vwCl (wx ++ wm) H) (hD : va_D (fun q : Nat => s.heap.size ≤ q) (wx ++ wm)) (hS : va_S (fun q : Nat => s.heap.size ≤ q) s.heap H locs) (hl : lv_has ls 4 [(0, .ref b), (1, .ref (a 0)), (2, .ref (bb 0)), (3, .int (nI i))]) (hi5 : i + 5 ≤ L)
    (kk : ∀ (wx1 wm1 : va_W) (H1 : Heap) (locs1 : List Loc), IW a bb cI wx1 wm1 → va_P D vwCl (wx1 ++ wm1) H1 → va_D (fun q : Nat => s.heap.size ≤ q) (wx1 ++ wm1) → va_S (fun q : Nat => s.heap.size ≤ q) s.heap H1 locs1 → W p l e room_1 s m #[Value.ref b] below meth c H1 locs1 44 1382 (lw_Z below #[Value.ref b] s) (F0 m 1260 ls [])) : W p l e room_1 s m #[Value.ref b] below meth c H locs 44 1382 (lw_Z below #[Value.ref b] s) (F0 m 1211 ls []) := by
  obtain ⟨hx, hb, hml, hown, hts⟩ := id CF
  have hA : ∀ q : Nat, s.heap.size ≤ q → (fun q : Nat => s.heap.size ≤ q) q := fun _ h => h
  obtain ⟨wx1, wm1, r, c1, c2, hI1, m1, m2⟩ := p_image l D hI
  obtain ⟨f1, g1⟩ := hI.x0 wm
  obtain ⟨f2, g2⟩ := hI.m0 wx1
  refine lv_aload_n hx hb dL_law_1211 rfl (lv_at hl 1 rfl) ?_
  refine kVI (n := 0) (As := []) (rest := []) CF hl hK hP hD hS hA c1 gL_law_X3_image rfl dL_law_1212 (by decide +kernel) ⟨⟨rfl, rfl⟩, ⟨Nat.le_of_ble_eq_true rfl, Nat.le_of_ble_eq_true rfl⟩, Nat.le_of_ble_eq_true rfl, Nat.le_of_ble_eq_true rfl⟩ (JN.appL m1) 0 g1 ⟨rfl, rfl⟩ rfl rfl (Nat.le_of_ble_eq_true rfl) (fun H locs hP hD hS => ?_)
  refine lv_aload_n hx hb dL_law_1215 rfl (lv_at hl 2 rfl) ?_
  refine kVI (n := 0) (As := []) (rest := [.int r]) CF hl hK hP hD hS hA c2 gL_law_X4_image rfl dL_law_1216 (by decide +kernel) ⟨⟨rfl, rfl⟩, ⟨Nat.le_of_ble_eq_true rfl, Nat.le_of_ble_eq_true rfl⟩, Nat.le_of_ble_eq_true rfl, Nat.le_of_ble_eq_true rfl⟩ (JN.appR m2) wx1.length g2 ⟨rfl, rfl⟩ rfl rfl (Nat.le_of_ble_eq_true rfl) (fun H locs hP hD hS => ?_)
  exact lv_icmp_eq (tgt := 1260) hx hb dL_law_1219 (by decide) (fun _ => kk wx1 wm1 H locs hI1 hP hD hS) (fun h => absurd rfl h)
set_option maxRecDepth 100000 in
theorem lc_on {p : Program} {l : Launch} {e : Env} {s : State} {m : MethodId} {below : List Frame} {meth : Method} {c : Code} {D : va_G} {cI : ClassId} {b L : Nat} {xs : Nat → Int32} {a bb : Nat → Nat} {wx wm : va_W} {H : Heap} {locs : List Loc} {ls : Array Slot} {i : Nat} (hL : L ≤ 2560) (CF : CallFix p m c cL_law 4 s #[Value.ref b] wsL_law RL) (hX : va_X b L xs s s.heap) (hbl : b < s.heap.size) (hK : va_K D vwCl [(cI, .int)] s) (hI : IW a bb cI wx wm) (hP : va_P D vwCl (wx ++ wm) H) (hD : va_D (fun q : Nat => s.heap.size ≤ q) (wx ++ wm)) (hS : va_S (fun q : Nat => s.heap.size ≤ q) s.heap H locs) (hl : lv_has ls 4 [(0, .ref b), (1, .ref (a 0)), (2, .ref (bb 0)), (3, .int (nI i))]) (hi5 : i + 5 ≤ L)
    (kk : ∀ (wx1 wm1 : va_W) (H1 : Heap) (locs1 : List Loc), IW a bb cI wx1 wm1 → va_P D vwCl (wx1 ++ wm1) H1 → va_D (fun q : Nat => s.heap.size ≤ q) (wx1 ++ wm1) → va_S (fun q : Nat => s.heap.size ≤ q) s.heap H1 locs1 → W p l e room_1 s m #[Value.ref b] below meth c H1 locs1 44 1382 (lw_Z below #[Value.ref b] s) (F0 m 1260 ls [])) : W p l e room_1 s m #[Value.ref b] below meth c H locs 44 1382 (lw_Z below #[Value.ref b] s) (F0 m 1224 ls []) := by
  obtain ⟨hx, hb, hml, hown, hts⟩ := id CF
  have hA : ∀ q : Nat, s.heap.size ≤ q → (fun q : Nat => s.heap.size ≤ q) q := fun _ h => h
  obtain ⟨wx1, wm1, r, c1, c2, hI1, m1, m2⟩ := p_on l D hI
  obtain ⟨f1, g1⟩ := hI.x0 wm
  obtain ⟨f2, g2⟩ := hI.m0 wx1
  refine lv_aload_n hx hb dL_law_1224 rfl (lv_at hl 1 rfl) ?_
  refine kVI (n := 0) (As := []) (rest := []) CF hl hK hP hD hS hA c1 gL_law_X3_on rfl dL_law_1225 (by decide +kernel) ⟨⟨rfl, rfl⟩, ⟨Nat.le_of_ble_eq_true rfl, Nat.le_of_ble_eq_true rfl⟩, Nat.le_of_ble_eq_true rfl, Nat.le_of_ble_eq_true rfl⟩ (JN.appL m1) 0 g1 ⟨rfl, rfl⟩ rfl rfl (Nat.le_of_ble_eq_true rfl) (fun H locs hP hD hS => ?_)
  refine lv_aload_n hx hb dL_law_1228 rfl (lv_at hl 2 rfl) ?_
  refine kVI (n := 0) (As := []) (rest := [.int r]) CF hl hK hP hD hS hA c2 gL_law_X4_on rfl dL_law_1229 (by decide +kernel) ⟨⟨rfl, rfl⟩, ⟨Nat.le_of_ble_eq_true rfl, Nat.le_of_ble_eq_true rfl⟩, Nat.le_of_ble_eq_true rfl, Nat.le_of_ble_eq_true rfl⟩ (JN.appR m2) wx1.length g2 ⟨rfl, rfl⟩ rfl rfl (Nat.le_of_ble_eq_true rfl) (fun H locs hP hD hS => ?_)
  exact lv_icmp_eq (tgt := 1260) hx hb dL_law_1232 (by decide) (fun _ => kk wx1 wm1 H locs hI1 hP hD hS) (fun h => absurd rfl h)
set_option maxRecDepth 100000 in
theorem lc_count {p : Program} {l : Launch} {e : Env} {s : State} {m : MethodId} {below : List Frame} {meth : Method} {c : Code} {D : va_G} {cI : ClassId} {b L : Nat} {xs : Nat → Int32} {a bb : Nat → Nat} {wx wm : va_W} {H : Heap} {locs : List Loc} {ls : Array Slot} {i : Nat} (hL : L ≤ 2560) (CF : CallFix p m c cL_law 4 s #[Value.ref b] wsL_law RL) (hX : va_X b L xs s s.heap) (hbl : b < s.heap.size) (hK : va_K D vwCl [(cI, .int)] s) (hI : IW a bb cI wx wm) (hP : va_P D vwCl (wx ++ wm) H) (hD : va_D (fun q : Nat => s.heap.size ≤ q) (wx ++ wm)) (hS : va_S (fun q : Nat => s.heap.size ≤ q) s.heap H locs) (hl : lv_has ls 4 [(0, .ref b), (1, .ref (a 0)), (2, .ref (bb 0)), (3, .int (nI i))]) (hi5 : i + 5 ≤ L) (hnw : va_Nw (.fieldLinkNest RX3 275 "MendAnothersBreaking$Letters" "size" "I" RX3) s)
    (kk : ∀ (wx1 wm1 : va_W) (H1 : Heap) (locs1 : List Loc), IW a bb cI wx1 wm1 → va_P D vwCl (wx1 ++ wm1) H1 → va_D (fun q : Nat => s.heap.size ≤ q) (wx1 ++ wm1) → va_S (fun q : Nat => s.heap.size ≤ q) s.heap H1 locs1 → W p l e room_1 s m #[Value.ref b] below meth c H1 locs1 44 1382 (lw_Z below #[Value.ref b] s) (F0 m 1260 ls [])) : W p l e room_1 s m #[Value.ref b] below meth c H locs 44 1382 (lw_Z below #[Value.ref b] s) (F0 m 1237 ls []) := by
  obtain ⟨hx, hb, hml, hown, hts⟩ := id CF
  have hA : ∀ q : Nat, s.heap.size ≤ q → (fun q : Nat => s.heap.size ≤ q) q := fun _ h => h
  obtain ⟨wx1, wm1, r, c1, c2, hI1, m1, m2⟩ := p_count l D hI (xs (i + 1))
  obtain ⟨f1, g1⟩ := hI.x0 wm
  obtain ⟨f2, g2⟩ := hI.m0 wx1
  refine lv_aload_n hx hb dL_law_1237 rfl (lv_at hl 1 rfl) ?_
  refine ldA (pc := 1238) (k := 1) hL CF hX hbl hS hl (ad1 i) (by omega) (by decide) dL_law_1238 dL_law_1239 dL_law_1240 dL_law_1241 dL_law_1242 ?_
  refine kVIN rfl hnw (n := 1) (As := [.int (xs (i + 1))]) (rest := []) CF hl hK hP hD hS hA c1 gL_law_X3_count rfl dL_law_1243 (by decide +kernel) ⟨⟨rfl, rfl⟩, ⟨Nat.le_of_ble_eq_true rfl, Nat.le_of_ble_eq_true rfl⟩, Nat.le_of_ble_eq_true rfl, Nat.le_of_ble_eq_true rfl⟩ (JN.appL m1) 0 g1 ⟨rfl, rfl⟩ rfl rfl (Nat.le_of_ble_eq_true rfl) (fun H locs hP hD hS => ?_)
  refine lv_aload_n hx hb dL_law_1246 rfl (lv_at hl 2 rfl) ?_
  refine ldA (pc := 1247) (k := 1) hL CF hX hbl hS hl (ad1 i) (by omega) (by decide) dL_law_1247 dL_law_1248 dL_law_1249 dL_law_1250 dL_law_1251 ?_
  refine kVI (n := 1) (As := [.int (xs (i + 1))]) (rest := [.int r]) CF hl hK hP hD hS hA c2 gL_law_X4_count rfl dL_law_1252 (by decide +kernel) ⟨⟨rfl, rfl⟩, ⟨Nat.le_of_ble_eq_true rfl, Nat.le_of_ble_eq_true rfl⟩, Nat.le_of_ble_eq_true rfl, Nat.le_of_ble_eq_true rfl⟩ (JN.appR m2) wx1.length g2 ⟨rfl, rfl⟩ rfl rfl (Nat.le_of_ble_eq_true rfl) (fun H locs hP hD hS => ?_)
  exact lv_icmp_eq (tgt := 1260) hx hb dL_law_1255 (by decide) (fun _ => kk wx1 wm1 H locs hI1 hP hD hS) (fun h => absurd rfl h)
