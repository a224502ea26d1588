/-! X3_wholeBehind -/
set_option maxHeartbeats 4000000 in
set_option maxRecDepth 100000 in
theorem c_X3_wholeBehind (l : Launch) (D : va_G) (cI : ClassId) (a : Nat → Nat) (no : SV) (mi : SV) (ke : SV) (hk : Int32) (sg : (Nat → Int32)) (lz : Int32) (rn : (Nat → Int32)) (rs : Int32) (rf : (Nat → Int32)) (be : (Nat → Int32)) (fh : (Nat → Int32)) (oh : (Nat → Int32)) (p1 : Int32) (res : Int32) (u_mi : SV) (h : M_X3_wholeBehind no mi p1 = some (res, u_mi)) : mI l yX3_wholeBehind wsX3_wholeBehind { frames := 5, cells := 0, slots := 0, locals := 115 } D cI [.ref (a 0), .int p1] (cX a cI no mi ke hk sg lz rn rs rf be fh oh) (cX a cI no u_mi ke hk sg lz rn rs rf be fh oh) res := by
  intro sz
  refine mStart (cc := cX3_wholeBehind) (maxL := 2) (ret := (some .int)) (own := RX3) (by decide) rfl rfl (Nat.le_of_ble_eq_true rfl) (lv := [(0, .ref (a 0)), (1, .int p1)]) rfl ?_
  intro p e s m args below meth c A ls Q H locs CF hr hlocks hK hP hD hS hA hAe hl hQ
  obtain ⟨hx, hb, hml, hown, hts⟩ := id CF
  have f10 := hts (.fieldLink RX3 10 "MendAnothersBreaking" "now" "LMendAnothersBreaking$State;") (List.mem_of_getElem? (i := 2) rfl)
  have f16 := hts (.fieldLink RX3 16 "MendAnothersBreaking" "mind" "LMendAnothersBreaking$State;") (List.mem_of_getElem? (i := 1) rfl)
  have i3 : ∀ w ∈ wsX30, w ∈ wsX3_wholeBehind := fun w h => List.mem_cons_of_mem _ (List.mem_append_left _ (List.mem_append_right _ h))
  unfold M_X3_wholeBehind at h
  refine lv_aload_n hx hb dX3_wholeBehind_0 rfl (lv_at hl 0 rfl) ?_
  refine va_get (D := D) (ci := 3) (v := .ref (a 9)) (C := RX3) (T := TX3) (N := 11) hx hb hts i3 hown hK hP 0 rfl rfl 1 (by decide) f16 (fun _ h9 => h9) rfl dX3_wholeBehind_1 ?_
  refine lv_aload_n hx hb dX3_wholeBehind_4 rfl (lv_at hl 0 rfl) ?_
  refine va_get (D := D) (ci := 3) (v := .ref (a 1)) (C := RX3) (T := TX3) (N := 11) hx hb hts i3 hown hK hP 0 rfl rfl 0 (by decide) f10 (fun _ h9 => h9) rfl dX3_wholeBehind_5 ?_
  obtain ⟨u8_mi, q8, h⟩ := bnd1_inv h
  refine kVV (n := 1) (As := [.ref (a 1)]) (rest := []) CF hl hK hP hD hS hA (c_X2_become l D cI (a 9) (a 10) (a 11) (a 12) (a 13) (a 14) (a 15) (a 16) (a 1) (a 2) (a 3) (a 4) (a 5) (a 6) (a 7) (a 8) mi no  u8_mi q8) gX3_wholeBehind_X2_become rfl dX3_wholeBehind_8 (by decide +kernel) ⟨⟨rfl, rfl⟩, ⟨Nat.le_of_ble_eq_true rfl, Nat.le_of_ble_eq_true rfl⟩, Nat.zero_le _, Nat.zero_le _⟩ (JN.sub (wst' := (cX a cI no u8_mi ke hk sg lz rn rs rf be fh oh)) [9, 10, 11, 12, 13, 14, 15, 16, 1, 2, 3, 4, 5, 6, 7, 8] rfl rfl rfl rfl) 9 rfl ⟨rfl, rfl⟩ rfl rfl (Nat.le_of_ble_eq_true rfl) (fun H locs hP hD hS => ?_)
  replace hP : va_P D vwCl (cX a cI no u8_mi ke hk sg lz rn rs rf be fh oh) H := hP
  replace hD : va_D A (cX a cI no u8_mi ke hk sg lz rn rs rf be fh oh) := hD
  refine lv_aload_n hx hb dX3_wholeBehind_11 rfl (lv_at hl 0 rfl) ?_
  refine va_get (D := D) (ci := 3) (v := .ref (a 9)) (C := RX3) (T := TX3) (N := 11) hx hb hts i3 hown hK hP 0 rfl rfl 1 (by decide) f16 (fun _ h9 => h9) rfl dX3_wholeBehind_12 ?_
  refine lv_iload_n hx hb dX3_wholeBehind_15 rfl (lv_at hl 1 rfl) ?_
  refine lv_iconst (v := 1) hx hb dX3_wholeBehind_16 (by decide) ?_
  refine lv_bipush (v := (-9)) hx hb dX3_wholeBehind_17 (by decide) ?_
  obtain ⟨u19_mi, q19, h⟩ := bnd1_inv h
  refine kVV (n := 3) (As := [.int p1, .int (1 : Int32), .int (-9 : Int32)]) (rest := []) CF hl hK hP hD hS hA (c_X2_pass l D cI (a 9) (a 10) (a 11) (a 12) (a 13) (a 14) (a 15) (a 16) u8_mi p1 (1 : Int32) (-9 : Int32) u19_mi q19) gX3_wholeBehind_X2_pass rfl dX3_wholeBehind_19 (by decide +kernel) ⟨⟨rfl, rfl⟩, ⟨Nat.le_of_ble_eq_true rfl, Nat.le_of_ble_eq_true rfl⟩, Nat.zero_le _, Nat.zero_le _⟩ (JN.sub (wst' := (cX a cI no u19_mi ke hk sg lz rn rs rf be fh oh)) [9, 10, 11, 12, 13, 14, 15, 16] rfl rfl rfl rfl) 9 rfl ⟨rfl, rfl⟩ rfl rfl (Nat.le_of_ble_eq_true rfl) (fun H locs hP hD hS => ?_)
  replace hP : va_P D vwCl (cX a cI no u19_mi ke hk sg lz rn rs rf be fh oh) H := hP
  replace hD : va_D A (cX a cI no u19_mi ke hk sg lz rn rs rf be fh oh) := hD
  refine lv_aload_n hx hb dX3_wholeBehind_22 rfl (lv_at hl 0 rfl) ?_
  refine va_get (D := D) (ci := 3) (v := .ref (a 9)) (C := RX3) (T := TX3) (N := 11) hx hb hts i3 hown hK hP 0 rfl rfl 1 (by decide) f16 (fun _ h9 => h9) rfl dX3_wholeBehind_23 ?_
  obtain ⟨r26, q26, h⟩ := bnd1_inv h
  refine kVI (n := 0) (As := []) (rest := []) CF hl hK hP hD hS hA (c_X2_wholeCount l D cI (a 9) (a 10) (a 11) (a 12) (a 13) (a 14) (a 15) (a 16) u19_mi  r26 q26) gX3_wholeBehind_X2_wholeCount rfl dX3_wholeBehind_26 (by decide +kernel) ⟨⟨rfl, rfl⟩, ⟨Nat.le_of_ble_eq_true rfl, Nat.le_of_ble_eq_true rfl⟩, Nat.zero_le _, Nat.zero_le _⟩ (JN.ro [9, 10, 11, 12, 13, 14, 15, 16] rfl rfl) 9 rfl ⟨rfl, rfl⟩ rfl rfl (Nat.le_of_ble_eq_true rfl) (fun H locs hP hD hS => ?_)
  obtain ⟨rfl, rfl⟩ := ret2 h
  exact rI hQ hx hb hr hlocks hAe hP hS rfl rfl dX3_wholeBehind_29
/-! X3_bestSays -/
set_option maxHeartbeats 4000000 in
set_option maxRecDepth 100000 in
theorem c_X3_bestSays (l : Launch) (D : va_G) (cI : ClassId) (a : Nat → Nat) (no : SV) (mi : SV) (ke : SV) (hk : Int32) (sg : (Nat → Int32)) (lz : Int32) (rn : (Nat → Int32)) (rs : Int32) (rf : (Nat → Int32)) (be : (Nat → Int32)) (fh : (Nat → Int32)) (oh : (Nat → Int32)) (p1 : Int32) (res : Int32) (u_mi : SV) (u_rf : (Nat → Int32)) (h : M_X3_bestSays no mi rf p1 = some (res, u_mi, u_rf)) : mI l yX3_bestSays wsX3_bestSays { frames := 6, cells := 0, slots := 0, locals := 136 } D cI [.ref (a 0), .int p1] (cX a cI no mi ke hk sg lz rn rs rf be fh oh) (cX a cI no u_mi ke hk sg lz rn rs u_rf be fh oh) res := by
  intro sz
  refine mStart (cc := cX3_bestSays) (maxL := 7) (ret := (some .int)) (own := RX3) (by decide) rfl rfl (Nat.le_of_ble_eq_true rfl) (lv := [(0, .ref (a 0)), (1, .int p1)]) rfl ?_
  intro p e s m args below meth c A ls Q H locs CF hr hlocks hK hP hD hS hA hAe hl hQ
  obtain ⟨hx, hb, hml, hown, hts⟩ := id CF
  have f10 := hts (.fieldLink RX3 10 "MendAnothersBreaking" "now" "LMendAnothersBreaking$State;") (List.mem_of_getElem? (i := 1) rfl)
  have f16 := hts (.fieldLink RX3 16 "MendAnothersBreaking" "mind" "LMendAnothersBreaking$State;") (List.mem_of_getElem? (i := 4) rfl)
  have f114 := hts (.fieldLink RX3 114 "MendAnothersBreaking$State" "breakers" "[I") (List.mem_of_getElem? (i := 5) rfl)
  have f171 := hts (.fieldLink RX3 171 "MendAnothersBreaking$State" "things" "I") (List.mem_of_getElem? (i := 2) rfl)
  have f190 := hts (.fieldLink RX3 190 "MendAnothersBreaking$State" "people" "I") (List.mem_of_getElem? (i := 3) rfl)
  have i2 : ∀ w ∈ wsX20, w ∈ wsX3_bestSays := fun w h => List.mem_cons_of_mem _ (List.mem_append_right _ h)
  have i3 : ∀ w ∈ wsX30, w ∈ wsX3_bestSays := fun w h => List.mem_cons_of_mem _ (List.mem_append_left _ (List.mem_append_right _ h))
  have L46 : ∀ (n : Nat) (x1 : Int32) (x5 : Int32) (rf : (Nat → Int32)) (k140 : Int32 → Int32 → SV → Option (Int32 × SV × (Nat → Int32))) (x3 : Int32) (x4 : Int32) (x6 : Int32) (mi : SV), fuel (fun _ _ _ _ => none) (B_X3_bestSays_46 x1 x5 no rf k140) n x3 x4 x6 mi = some (res, u_mi, u_rf) → 
      (∀ (x3 : Int32) (x4 : Int32) (mi : SV), k140 x3 x4 mi = some (res, u_mi, u_rf) → ∀ (H : Heap) (locs : List Loc) (ls : Array Slot), va_P D vwCl (cX a cI no mi ke hk sg lz rn rs rf be fh oh) H → va_D A (cX a cI no mi ke hk sg lz rn rs rf be fh oh) → va_S A s.heap H locs → lv_has ls 7 [(0, .ref (a 0)), (1, .int x1), (3, .int x3), (4, .int x4), (5, .int x5)] → W p l e { frames := 6, cells := 0, slots := 0, locals := 136 } s m args below meth c H locs 0 0 Q (F0 m 140 ls [])) → 
      ∀ (H : Heap) (locs : List Loc) (ls : Array Slot), va_P D vwCl (cX a cI no mi ke hk sg lz rn rs rf be fh oh) H → va_D A (cX a cI no mi ke hk sg lz rn rs rf be fh oh) → va_S A s.heap H locs → lv_has ls 7 [(0, .ref (a 0)), (1, .int x1), (3, .int x3), (4, .int x4), (5, .int x5), (6, .int x6)] → W p l e { frames := 6, cells := 0, slots := 0, locals := 136 } s m args below meth c H locs 0 0 Q (F0 m 46 ls []) := by
    intro n
    induction n with
    | zero =>
      intro x1 x5 rf k140 x3 x4 x6 mi h
      exact nomatch (show (none : Option (Int32 × SV × (Nat → Int32))) = some (res, u_mi, u_rf) from h)
    | succ n ih =>
      intro x1 x5 rf k140 x3 x4 x6 mi h hk140 H locs ls hP hD hS hl
      replace h : B_X3_bestSays_46 x1 x5 no rf k140 (fuel (fun _ _ _ _ => none) (B_X3_bestSays_46 x1 x5 no rf k140) n) x3 x4 x6 mi = some (res, u_mi, u_rf) := h
      unfold B_X3_bestSays_46 at h
      refine lv_iload hx hb dX3_bestSays_46 (lv_at hl 5 rfl) ?_
      refine lv_aload_n hx hb dX3_bestSays_48 rfl (lv_at hl 0 rfl) ?_
      refine va_get (D := D) (ci := 3) (v := .ref (a 1)) (C := RX3) (T := TX3) (N := 11) hx hb hts i3 hown hK hP 0 rfl rfl 0 (by decide) f10 (fun _ h9 => h9) rfl dX3_bestSays_49 ?_
      refine va_get (D := D) (ci := 2) (v := .int (sPe no)) (C := RX2) (T := TX2) (N := 10) hx hb hts i2 hown hK hP 1 rfl rfl 7 (by decide) f190 (fun _ h9 => h9) rfl dX3_bestSays_52 ?_
      refine lv_icmp_ge (tgt := 140) hx hb dX3_bestSays_55 (by decide) (fun c55 => ?_) (fun c55 => ?_)
      · replace h := fx_ite_t c55 h
        exact hk140 _ _ _ h _ _ _ hP hD hS (lv_sub hl [0, 1, 2, 3, 4] rfl)
      · replace h := fx_ite_f c55 h
        refine lv_aload_n hx hb dX3_bestSays_58 rfl (lv_at hl 0 rfl) ?_
        refine va_get (D := D) (ci := 3) (v := .ref (a 1)) (C := RX3) (T := TX3) (N := 11) hx hb hts i3 hown hK hP 0 rfl rfl 0 (by decide) f10 (fun _ h9 => h9) rfl dX3_bestSays_59 ?_
        refine lv_iload hx hb dX3_bestSays_62 (lv_at hl 4 rfl) ?_
        obtain ⟨r64, q64, h⟩ := bnd1_inv h
        refine kVI (n := 1) (As := [.int x5]) (rest := []) CF hl hK hP hD hS hA (c_X2_isMourned l D cI (a 1) (a 2) (a 3) (a 4) (a 5) (a 6) (a 7) (a 8) no x5 r64 q64) gX3_bestSays_X2_isMourned rfl dX3_bestSays_64 (by decide +kernel) ⟨⟨rfl, rfl⟩, ⟨Nat.le_of_ble_eq_true rfl, Nat.le_of_ble_eq_true rfl⟩, Nat.zero_le _, Nat.zero_le _⟩ (JN.ro [1, 2, 3, 4, 5, 6, 7, 8] rfl rfl) 1 rfl ⟨rfl, rfl⟩ rfl rfl (Nat.le_of_ble_eq_true rfl) (fun H locs hP hD hS => ?_)
        refine lv_if_eq (tgt := 140) hx hb dX3_bestSays_67 (by decide) (fun c67 => ?_) (fun c67 => ?_)
        · replace h := fx_ite_t c67 h
          exact hk140 _ _ _ h _ _ _ hP hD hS (lv_sub hl [0, 1, 2, 3, 4] rfl)
        · replace h := fx_ite_f c67 h
          refine lv_aload_n hx hb dX3_bestSays_70 rfl (lv_at hl 0 rfl) ?_
          refine va_get (D := D) (ci := 3) (v := .ref (a 9)) (C := RX3) (T := TX3) (N := 11) hx hb hts i3 hown hK hP 0 rfl rfl 1 (by decide) f16 (fun _ h9 => h9) rfl dX3_bestSays_71 ?_
          refine lv_aload_n hx hb dX3_bestSays_74 rfl (lv_at hl 0 rfl) ?_
          refine va_get (D := D) (ci := 3) (v := .ref (a 1)) (C := RX3) (T := TX3) (N := 11) hx hb hts i3 hown hK hP 0 rfl rfl 0 (by decide) f10 (fun _ h9 => h9) rfl dX3_bestSays_75 ?_
          obtain ⟨u78_mi, q78, h⟩ := bnd1_inv h
          refine kVV (n := 1) (As := [.ref (a 1)]) (rest := []) CF hl hK hP hD hS hA (c_X2_become l D cI (a 9) (a 10) (a 11) (a 12) (a 13) (a 14) (a 15) (a 16) (a 1) (a 2) (a 3) (a 4) (a 5) (a 6) (a 7) (a 8) mi no  u78_mi q78) gX3_bestSays_X2_become rfl dX3_bestSays_78 (by decide +kernel) ⟨⟨rfl, rfl⟩, ⟨Nat.le_of_ble_eq_true rfl, Nat.le_of_ble_eq_true rfl⟩, Nat.zero_le _, Nat.zero_le _⟩ (JN.sub (wst' := (cX a cI no u78_mi ke hk sg lz rn rs rf be fh oh)) [9, 10, 11, 12, 13, 14, 15, 16, 1, 2, 3, 4, 5, 6, 7, 8] rfl rfl rfl rfl) 9 rfl ⟨rfl, rfl⟩ rfl rfl (Nat.le_of_ble_eq_true rfl) (fun H locs hP hD hS => ?_)
          replace hP : va_P D vwCl (cX a cI no u78_mi ke hk sg lz rn rs rf be fh oh) H := hP
          replace hD : va_D A (cX a cI no u78_mi ke hk sg lz rn rs rf be fh oh) := hD
          refine lv_aload_n hx hb dX3_bestSays_81 rfl (lv_at hl 0 rfl) ?_
          refine va_get (D := D) (ci := 3) (v := .ref (a 9)) (C := RX3) (T := TX3) (N := 11) hx hb hts i3 hown hK hP 0 rfl rfl 1 (by decide) f16 (fun _ h9 => h9) rfl dX3_bestSays_82 ?_
          refine va_get (D := D) (ci := 2) (v := .ref (a 16)) (C := RX2) (T := TX2) (N := 10) hx hb hts i2 hown hK hP 9 rfl rfl 6 (by decide) f114 (fun _ h9 => h9) rfl dX3_bestSays_85 ?_
          refine lv_iload hx hb dX3_bestSays_88 (lv_at hl 4 rfl) ?_
          refine lv_iload hx hb dX3_bestSays_90 (lv_at hl 5 rfl) ?_
          obtain ⟨g92, h⟩ := chk_inv h
          refine va_iast (n := 9) (f := (sBr u78_mi)) hx hb hK hP hD hS 16 0 rfl rfl g92 dX3_bestSays_92 (fun H locs hP hD hS => ?_)
          replace hP : va_P D vwCl (cX a cI no (sUBr u78_mi (upd (sBr u78_mi) (Int32.toNatClampNeg x5) x6)) ke hk sg lz rn rs rf be fh oh) H := hP
          replace hD : va_D A (cX a cI no (sUBr u78_mi (upd (sBr u78_mi) (Int32.toNatClampNeg x5) x6)) ke hk sg lz rn rs rf be fh oh) := hD
          refine lv_aload_n hx hb dX3_bestSays_93 rfl (lv_at hl 0 rfl) ?_
          refine va_get (D := D) (ci := 3) (v := .ref (a 9)) (C := RX3) (T := TX3) (N := 11) hx hb hts i3 hown hK hP 0 rfl rfl 1 (by decide) f16 (fun _ h9 => h9) rfl dX3_bestSays_94 ?_
          refine lv_iload_n hx hb dX3_bestSays_97 rfl (lv_at hl 1 rfl) ?_
          refine lv_iconst (v := 1) hx hb dX3_bestSays_98 (by decide) ?_
          refine lv_bipush (v := (-9)) hx hb dX3_bestSays_99 (by decide) ?_
          obtain ⟨u101_mi, q101, h⟩ := bnd1_inv h
          refine kVV (n := 3) (As := [.int x1, .int (1 : Int32), .int (-9 : Int32)]) (rest := []) CF hl hK hP hD hS hA (c_X2_pass l D cI (a 9) (a 10) (a 11) (a 12) (a 13) (a 14) (a 15) (a 16) (sUBr u78_mi (upd (sBr u78_mi) (Int32.toNatClampNeg x5) x6)) x1 (1 : Int32) (-9 : Int32) u101_mi q101) gX3_bestSays_X2_pass rfl dX3_bestSays_101 (by decide +kernel) ⟨⟨rfl, rfl⟩, ⟨Nat.le_of_ble_eq_true rfl, Nat.le_of_ble_eq_true rfl⟩, Nat.zero_le _, Nat.zero_le _⟩ (JN.sub (wst' := (cX a cI no u101_mi ke hk sg lz rn rs rf be fh oh)) [9, 10, 11, 12, 13, 14, 15, 16] rfl rfl rfl rfl) 9 rfl ⟨rfl, rfl⟩ rfl rfl (Nat.le_of_ble_eq_true rfl) (fun H locs hP hD hS => ?_)
          replace hP : va_P D vwCl (cX a cI no u101_mi ke hk sg lz rn rs rf be fh oh) H := hP
          replace hD : va_D A (cX a cI no u101_mi ke hk sg lz rn rs rf be fh oh) := hD
          refine lv_aload_n hx hb dX3_bestSays_104 rfl (lv_at hl 0 rfl) ?_
          refine va_get (D := D) (ci := 3) (v := .ref (a 9)) (C := RX3) (T := TX3) (N := 11) hx hb hts i3 hown hK hP 0 rfl rfl 1 (by decide) f16 (fun _ h9 => h9) rfl dX3_bestSays_105 ?_
          obtain ⟨r108, q108, h⟩ := bnd1_inv h
          refine kVI (n := 0) (As := []) (rest := []) CF hl hK hP hD hS hA (c_X2_wholeCount l D cI (a 9) (a 10) (a 11) (a 12) (a 13) (a 14) (a 15) (a 16) u101_mi  r108 q108) gX3_bestSays_X2_wholeCount rfl dX3_bestSays_108 (by decide +kernel) ⟨⟨rfl, rfl⟩, ⟨Nat.le_of_ble_eq_true rfl, Nat.le_of_ble_eq_true rfl⟩, Nat.zero_le _, Nat.zero_le _⟩ (JN.ro [9, 10, 11, 12, 13, 14, 15, 16] rfl rfl) 9 rfl ⟨rfl, rfl⟩ rfl rfl (Nat.le_of_ble_eq_true rfl) (fun H locs hP hD hS => ?_)
          refine lv_iload hx hb dX3_bestSays_111 (lv_at hl 3 rfl) ?_
          refine lv_icmp_le (tgt := 134) hx hb dX3_bestSays_113 (by decide) (fun c113 => ?_) (fun c113 => ?_)
          · replace h := fx_ite_t c113 h
            refine lv_iinc (v := (x6 + 1)) (lv' := [(6, .int (x6 + 1)), (0, .ref (a 0)), (1, .int x1), (3, .int x3), (4, .int x4), (5, .int x5)]) hx hb dX3_bestSays_134 hl (k := 5) rfl (by first | rfl | decide) (by decide) rfl (fun ls hl => ?_)
            refine lv_goto (tgt := 46) hx hb dX3_bestSays_137 (by decide) ?_
            exact ih _ _ _ _ _ _ _ _ h hk140 _ _ _ hP hD hS (lv_sub hl [1, 2, 3, 4, 5, 0] rfl)
          · replace h := fx_ite_f c113 h
            refine lv_aload_n hx hb dX3_bestSays_116 rfl (lv_at hl 0 rfl) ?_
            refine va_get (D := D) (ci := 3) (v := .ref (a 9)) (C := RX3) (T := TX3) (N := 11) hx hb hts i3 hown hK hP 0 rfl rfl 1 (by decide) f16 (fun _ h9 => h9) rfl dX3_bestSays_117 ?_
            obtain ⟨r120, q120, h⟩ := bnd1_inv h
            refine kVI (n := 0) (As := []) (rest := []) CF hl hK hP hD hS hA (c_X2_wholeCount l D cI (a 9) (a 10) (a 11) (a 12) (a 13) (a 14) (a 15) (a 16) u101_mi  r120 q120) gX3_bestSays_X2_wholeCount rfl dX3_bestSays_120 (by decide +kernel) ⟨⟨rfl, rfl⟩, ⟨Nat.le_of_ble_eq_true rfl, Nat.le_of_ble_eq_true rfl⟩, Nat.zero_le _, Nat.zero_le _⟩ (JN.ro [9, 10, 11, 12, 13, 14, 15, 16] rfl rfl) 9 rfl ⟨rfl, rfl⟩ rfl rfl (Nat.le_of_ble_eq_true rfl) (fun H locs hP hD hS => ?_)
            refine lv_istore (lv' := [(4, .int r120), (0, .ref (a 0)), (1, .int x1), (3, .int x3), (5, .int x5), (6, .int x6)]) hx hb dX3_bestSays_123 hl (by decide) rfl (fun ls hl => ?_)
            refine lv_bipush (v := 10) hx hb dX3_bestSays_125 (by decide) ?_
            refine lv_iload hx hb dX3_bestSays_127 (lv_at hl 4 rfl) ?_
            refine lv_imul hx hb dX3_bestSays_129 ?_
            refine lv_iload hx hb dX3_bestSays_130 (lv_at hl 5 rfl) ?_
            refine lv_iadd hx hb dX3_bestSays_132 ?_
            refine lv_istore_n (lv' := [(3, .int (((10 : Int32) * x5) + x6)), (4, .int r120), (0, .ref (a 0)), (1, .int x1), (5, .int x5), (6, .int x6)]) hx hb dX3_bestSays_133 rfl hl (by decide) rfl (fun ls hl => ?_)
            refine lv_iinc (v := (x6 + 1)) (lv' := [(6, .int (x6 + 1)), (3, .int (((10 : Int32) * x5) + x6)), (4, .int r120), (0, .ref (a 0)), (1, .int x1), (5, .int x5)]) hx hb dX3_bestSays_134 hl (k := 5) rfl (by first | rfl | decide) (by decide) rfl (fun ls hl => ?_)
            refine lv_goto (tgt := 46) hx hb dX3_bestSays_137 (by decide) ?_
            exact ih _ _ _ _ _ _ _ _ h hk140 _ _ _ hP hD hS (lv_sub hl [3, 4, 1, 2, 5, 0] rfl)
  have L31 : ∀ (n : Nat) (x1 : Int32) (rf : (Nat → Int32)) (x3 : Int32) (x4 : Int32) (x5 : Int32) (mi : SV), fuel (fun _ _ _ _ => none) (B_X3_bestSays_31 x1 no rf) n x3 x4 x5 mi = some (res, u_mi, u_rf) → 
      ∀ (H : Heap) (locs : List Loc) (ls : Array Slot), va_P D vwCl (cX a cI no mi ke hk sg lz rn rs rf be fh oh) H → va_D A (cX a cI no mi ke hk sg lz rn rs rf be fh oh) → va_S A s.heap H locs → lv_has ls 7 [(0, .ref (a 0)), (1, .int x1), (3, .int x3), (4, .int x4), (5, .int x5)] → W p l e { frames := 6, cells := 0, slots := 0, locals := 136 } s m args below meth c H locs 0 0 Q (F0 m 31 ls []) := by
    intro n
    induction n with
    | zero =>
      intro x1 rf x3 x4 x5 mi h
      exact nomatch (show (none : Option (Int32 × SV × (Nat → Int32))) = some (res, u_mi, u_rf) from h)
    | succ n ih =>
      intro x1 rf x3 x4 x5 mi h  H locs ls hP hD hS hl
      replace h : B_X3_bestSays_31 x1 no rf (fuel (fun _ _ _ _ => none) (B_X3_bestSays_31 x1 no rf) n) x3 x4 x5 mi = some (res, u_mi, u_rf) := h
      unfold B_X3_bestSays_31 at h
      refine lv_iload hx hb dX3_bestSays_31 (lv_at hl 4 rfl) ?_
      refine lv_aload_n hx hb dX3_bestSays_33 rfl (lv_at hl 0 rfl) ?_
      refine va_get (D := D) (ci := 3) (v := .ref (a 1)) (C := RX3) (T := TX3) (N := 11) hx hb hts i3 hown hK hP 0 rfl rfl 0 (by decide) f10 (fun _ h9 => h9) rfl dX3_bestSays_34 ?_
      refine va_get (D := D) (ci := 2) (v := .int (sTh no)) (C := RX2) (T := TX2) (N := 10) hx hb hts i2 hown hK hP 1 rfl rfl 8 (by decide) f171 (fun _ h9 => h9) rfl dX3_bestSays_37 ?_
      refine lv_icmp_ge (tgt := 146) hx hb dX3_bestSays_40 (by decide) (fun c40 => ?_) (fun c40 => ?_)
      · replace h := fx_ite_t c40 h
        refine lv_iload_n hx hb dX3_bestSays_146 rfl (lv_at hl 2 rfl) ?_
        obtain ⟨rfl, rfl, rfl⟩ := ret3 h
        exact rI hQ hx hb hr hlocks hAe hP hS rfl rfl dX3_bestSays_147
      · replace h := fx_ite_f c40 h
        refine lv_iconst (v := 0) hx hb dX3_bestSays_43 (by decide) ?_
        refine lv_istore (lv' := [(6, .int (0 : Int32)), (0, .ref (a 0)), (1, .int x1), (3, .int x3), (4, .int x4), (5, .int x5)]) hx hb dX3_bestSays_44 hl (by decide) rfl (fun ls hl => ?_)
        refine L46 FU _ _ _ _ _ _ _ _ h (fun x3 x4 mi h H locs ls hP hD hS hl => ?_) _ _ _ hP hD hS (lv_sub hl [1, 2, 3, 4, 5, 0] rfl)
        refine lv_iinc (v := (x5 + 1)) (lv' := [(5, .int (x5 + 1)), (0, .ref (a 0)), (1, .int x1), (3, .int x3), (4, .int x4)]) hx hb dX3_bestSays_140 hl (k := 4) rfl (by first | rfl | decide) (by decide) rfl (fun ls hl => ?_)
        refine lv_goto (tgt := 31) hx hb dX3_bestSays_143 (by decide) ?_
        exact ih _ _ _ _ _ _ h  _ _ _ hP hD hS (lv_sub hl [1, 2, 3, 4, 0] rfl)
  unfold M_X3_bestSays at h
  refine lv_iload_n hx hb dX3_bestSays_0 rfl (lv_at hl 1 rfl) ?_
  refine lv_iconst (v := 0) hx hb dX3_bestSays_1 (by decide) ?_
  refine lv_bipush (v := 99) hx hb dX3_bestSays_2 (by decide) ?_
  obtain ⟨r4, q4, h⟩ := bnd1_inv h
  refine kSI (n := 3) (As := [.int p1, .int (0 : Int32), .int (99 : Int32)]) (rest := []) CF hl hK hP hD hS hA (c_X3_outside l D cI   p1 (0 : Int32) (99 : Int32) r4 q4) gX3_bestSays_X3_outside rfl dX3_bestSays_4 (by decide +kernel) ⟨⟨rfl, rfl⟩, ⟨Nat.le_of_ble_eq_true rfl, Nat.le_of_ble_eq_true rfl⟩, Nat.zero_le _, Nat.zero_le _⟩ (JN.ro [] rfl rfl) rfl rfl (Nat.le_of_ble_eq_true rfl) (fun H locs hP hD hS => ?_)
  refine lv_istore_n (lv' := [(2, .int r4), (0, .ref (a 0)), (1, .int p1)]) hx hb dX3_bestSays_7 rfl hl (by decide) rfl (fun ls hl => ?_)
  refine lv_iload_n hx hb dX3_bestSays_8 rfl (lv_at hl 0 rfl) ?_
  refine lv_if_eq (tgt := 18) hx hb dX3_bestSays_9 (by decide) (fun c9 => ?_) (fun c9 => ?_)
  · replace h := fx_ite_t c9 h
    refine lv_bipush (v := (-9)) hx hb dX3_bestSays_18 (by decide) ?_
    refine lv_istore_n (lv' := [(3, .int (-9 : Int32)), (2, .int r4), (0, .ref (a 0)), (1, .int p1)]) hx hb dX3_bestSays_20 rfl hl (by decide) rfl (fun ls hl => ?_)
    refine lv_aload_n hx hb dX3_bestSays_21 rfl (lv_at hl 2 rfl) ?_
    refine lv_iload_n hx hb dX3_bestSays_22 rfl (lv_at hl 3 rfl) ?_
    obtain ⟨r23, u23_mi, q23, h⟩ := bnd2_inv h
    refine kVI (n := 1) (As := [.int p1]) (rest := []) CF hl hK hP hD hS hA (c_X3_wholeBehind l D cI a no mi ke hk sg lz rn rs rf be fh oh p1 r23 u23_mi q23) gX3_bestSays_X3_wholeBehind rfl dX3_bestSays_23 (by decide +kernel) ⟨⟨rfl, rfl⟩, ⟨Nat.le_of_ble_eq_true rfl, Nat.le_of_ble_eq_true rfl⟩, Nat.zero_le _, Nat.zero_le _⟩ (JN.whole (w1 := (cX a cI no u23_mi ke hk sg lz rn rs rf be fh oh)) rfl) 0 rfl ⟨rfl, rfl⟩ rfl rfl (Nat.le_of_ble_eq_true rfl) (fun H locs hP hD hS => ?_)
    replace hP : va_P D vwCl (cX a cI no u23_mi ke hk sg lz rn rs rf be fh oh) H := hP
    replace hD : va_D A (cX a cI no u23_mi ke hk sg lz rn rs rf be fh oh) := hD
    refine lv_istore (lv' := [(4, .int r23), (3, .int (-9 : Int32)), (2, .int r4), (0, .ref (a 0)), (1, .int p1)]) hx hb dX3_bestSays_26 hl (by decide) rfl (fun ls hl => ?_)
    refine lv_iconst (v := 0) hx hb dX3_bestSays_28 (by decide) ?_
    refine lv_istore (lv' := [(5, .int (0 : Int32)), (4, .int r23), (3, .int (-9 : Int32)), (2, .int r4), (0, .ref (a 0)), (1, .int p1)]) hx hb dX3_bestSays_29 hl (by decide) rfl (fun ls hl => ?_)
    exact L31 FU _ _ _ _ _ _ h  _ _ _ hP hD hS (lv_sub hl [4, 5, 2, 1, 0] rfl)
  · replace h := fx_ite_f c9 h
    refine lv_aload_n hx hb dX3_bestSays_12 rfl (lv_at hl 1 rfl) ?_
    refine lv_iload_n hx hb dX3_bestSays_13 rfl (lv_at hl 0 rfl) ?_
    obtain ⟨r14, u14_rf, q14, h⟩ := bnd2_inv h
    refine kVI (n := 1) (As := [.int r4]) (rest := []) CF hl hK hP hD hS hA (c_X3_refuse l D cI a no mi ke hk sg lz rn rs rf be fh oh r4 r14 u14_rf q14) gX3_bestSays_X3_refuse rfl dX3_bestSays_14 (by decide +kernel) ⟨⟨rfl, rfl⟩, ⟨Nat.le_of_ble_eq_true rfl, Nat.le_of_ble_eq_true rfl⟩, Nat.zero_le _, Nat.zero_le _⟩ (JN.whole (w1 := (cX a cI no mi ke hk sg lz rn rs u14_rf be fh oh)) rfl) 0 rfl ⟨rfl, rfl⟩ rfl rfl (Nat.le_of_ble_eq_true rfl) (fun H locs hP hD hS => ?_)
    replace hP : va_P D vwCl (cX a cI no mi ke hk sg lz rn rs u14_rf be fh oh) H := hP
    replace hD : va_D A (cX a cI no mi ke hk sg lz rn rs u14_rf be fh oh) := hD
    obtain ⟨rfl, rfl, rfl⟩ := ret3 h
    exact rI hQ hx hb hr hlocks hAe hP hS rfl rfl dX3_bestSays_17
/-! X3_oneCouldSay -/
set_option maxHeartbeats 4000000 in
set_option maxRecDepth 100000 in
theorem c_X3_oneCouldSay (l : Launch) (D : va_G) (cI : ClassId) (a : Nat → Nat) (no : SV) (mi : SV) (ke : SV) (hk : Int32) (sg : (Nat → Int32)) (lz : Int32) (rn : (Nat → Int32)) (rs : Int32) (rf : (Nat → Int32)) (be : (Nat → Int32)) (fh : (Nat → Int32)) (oh : (Nat → Int32)) (p1 : Int32) (p2 : Int32) (res : Int32) (h : M_X3_oneCouldSay no p1 p2 = some res) : mI l yX3_oneCouldSay wsX3_oneCouldSay { frames := 3, cells := 0, slots := 0, locals := 69 } D cI [.ref (a 0), .int p1, .int p2] (cX a cI no mi ke hk sg lz rn rs rf be fh oh) (cX a cI no mi ke hk sg lz rn rs rf be fh oh) res := by
  intro sz
  refine mStart (cc := cX3_oneCouldSay) (maxL := 6) (ret := (some .boolean)) (own := RX3) (by decide) rfl rfl (Nat.le_of_ble_eq_true rfl) (lv := [(0, .ref (a 0)), (1, .int p1), (2, .int p2)]) rfl ?_
  intro p e s m args below meth c A ls Q H locs CF hr hlocks hK hP hD hS hA hAe hl hQ
  obtain ⟨hx, hb, hml, hown, hts⟩ := id CF
  have f10 := hts (.fieldLink RX3 10 "MendAnothersBreaking" "now" "LMendAnothersBreaking$State;") (List.mem_of_getElem? (i := 1) rfl)
  have f190 := hts (.fieldLink RX3 190 "MendAnothersBreaking$State" "people" "I") (List.mem_of_getElem? (i := 2) rfl)
  have i2 : ∀ w ∈ wsX20, w ∈ wsX3_oneCouldSay := fun w h => List.mem_cons_of_mem _ (List.mem_append_right _ h)
  have i3 : ∀ w ∈ wsX30, w ∈ wsX3_oneCouldSay := fun w h => List.mem_cons_of_mem _ (List.mem_append_left _ (List.mem_append_right _ h))
  have L12 : ∀ (n : Nat) (x1 : Int32) (x3 : Int32) (x4 : Int32), fuel (fun _ => none) (B_X3_oneCouldSay_12 x1 x3 no) n x4 = some res → 
      ∀ (H : Heap) (locs : List Loc) (ls : Array Slot), va_P D vwCl (cX a cI no mi ke hk sg lz rn rs rf be fh oh) H → va_D A (cX a cI no mi ke hk sg lz rn rs rf be fh oh) → va_S A s.heap H locs → lv_has ls 6 [(0, .ref (a 0)), (1, .int x1), (3, .int x3), (4, .int x4)] → W p l e { frames := 3, cells := 0, slots := 0, locals := 69 } s m args below meth c H locs 0 0 Q (F0 m 12 ls []) := by
    intro n
    induction n with
    | zero =>
      intro x1 x3 x4 h
      exact nomatch (show (none : Option (Int32)) = some res from h)
    | succ n ih =>
      intro x1 x3 x4 h  H locs ls hP hD hS hl
      replace h : B_X3_oneCouldSay_12 x1 x3 no (fuel (fun _ => none) (B_X3_oneCouldSay_12 x1 x3 no) n) x4 = some res := h
      unfold B_X3_oneCouldSay_12 at h
      refine lv_iload hx hb dX3_oneCouldSay_12 (lv_at hl 3 rfl) ?_
      refine lv_aload_n hx hb dX3_oneCouldSay_14 rfl (lv_at hl 0 rfl) ?_
      refine va_get (D := D) (ci := 3) (v := .ref (a 1)) (C := RX3) (T := TX3) (N := 11) hx hb hts i3 hown hK hP 0 rfl rfl 0 (by decide) f10 (fun _ h9 => h9) rfl dX3_oneCouldSay_15 ?_
      refine va_get (D := D) (ci := 2) (v := .int (sPe no)) (C := RX2) (T := TX2) (N := 10) hx hb hts i2 hown hK hP 1 rfl rfl 7 (by decide) f190 (fun _ h9 => h9) rfl dX3_oneCouldSay_18 ?_
      refine lv_icmp_ge (tgt := 54) hx hb dX3_oneCouldSay_21 (by decide) (fun c21 => ?_) (fun c21 => ?_)
      · replace h := fx_ite_t c21 h
        refine lv_iconst (v := 0) hx hb dX3_oneCouldSay_54 (by decide) ?_
        obtain rfl := ret1 h
        exact rI hQ hx hb hr hlocks hAe hP hS rfl rfl dX3_oneCouldSay_55
      · replace h := fx_ite_f c21 h
        refine lv_iconst (v := 1) hx hb dX3_oneCouldSay_24 (by decide) ?_
        refine lv_iload hx hb dX3_oneCouldSay_25 (lv_at hl 3 rfl) ?_
        refine lv_ishl hx hb dX3_oneCouldSay_27 ?_
        refine lv_istore (lv' := [(5, .int ((1 : Int32) <<< (x4 &&& 31))), (0, .ref (a 0)), (1, .int x1), (3, .int x3), (4, .int x4)]) hx hb dX3_oneCouldSay_28 hl (by decide) rfl (fun ls hl => ?_)
        refine lv_iload_n hx hb dX3_oneCouldSay_30 rfl (lv_at hl 2 rfl) ?_
        refine lv_iload hx hb dX3_oneCouldSay_31 (lv_at hl 0 rfl) ?_
        refine lv_iand hx hb dX3_oneCouldSay_33 ?_
        refine lv_if_eq (tgt := 48) hx hb dX3_oneCouldSay_34 (by decide) (fun c34 => ?_) (fun c34 => ?_)
        · replace h := fx_ite_t c34 h
          refine lv_iinc (v := (x4 + 1)) (lv' := [(4, .int (x4 + 1)), (5, .int ((1 : Int32) <<< (x4 &&& 31))), (0, .ref (a 0)), (1, .int x1), (3, .int x3)]) hx hb dX3_oneCouldSay_48 hl (k := 4) rfl (by first | rfl | decide) (by decide) rfl (fun ls hl => ?_)
          refine lv_goto (tgt := 12) hx hb dX3_oneCouldSay_51 (by decide) ?_
          exact ih _ _ _ h  _ _ _ hP hD hS (lv_sub hl [2, 3, 4, 0] rfl)
        · replace h := fx_ite_f c34 h
          refine lv_iload_n hx hb dX3_oneCouldSay_37 rfl (lv_at hl 3 rfl) ?_
          refine lv_iload hx hb dX3_oneCouldSay_38 (lv_at hl 0 rfl) ?_
          refine lv_iconst (v := (-1)) hx hb dX3_oneCouldSay_40 (by decide) ?_
          refine lv_ixor hx hb dX3_oneCouldSay_41 ?_
          refine lv_iand hx hb dX3_oneCouldSay_42 ?_
          refine lv_if_eq (tgt := 48) hx hb dX3_oneCouldSay_43 (by decide) (fun c43 => ?_) (fun c43 => ?_)
          · replace h := fx_ite_t c43 h
            refine lv_iinc (v := (x4 + 1)) (lv' := [(4, .int (x4 + 1)), (5, .int ((1 : Int32) <<< (x4 &&& 31))), (0, .ref (a 0)), (1, .int x1), (3, .int x3)]) hx hb dX3_oneCouldSay_48 hl (k := 4) rfl (by first | rfl | decide) (by decide) rfl (fun ls hl => ?_)
            refine lv_goto (tgt := 12) hx hb dX3_oneCouldSay_51 (by decide) ?_
            exact ih _ _ _ h  _ _ _ hP hD hS (lv_sub hl [2, 3, 4, 0] rfl)
          · replace h := fx_ite_f c43 h
            refine lv_iconst (v := 1) hx hb dX3_oneCouldSay_46 (by decide) ?_
            obtain rfl := ret1 h
            exact rI hQ hx hb hr hlocks hAe hP hS rfl rfl dX3_oneCouldSay_47
  unfold M_X3_oneCouldSay at h
  refine lv_aload_n hx hb dX3_oneCouldSay_0 rfl (lv_at hl 0 rfl) ?_
  refine va_get (D := D) (ci := 3) (v := .ref (a 1)) (C := RX3) (T := TX3) (N := 11) hx hb hts i3 hown hK hP 0 rfl rfl 0 (by decide) f10 (fun _ h9 => h9) rfl dX3_oneCouldSay_1 ?_
  refine lv_iload_n hx hb dX3_oneCouldSay_4 rfl (lv_at hl 2 rfl) ?_
  obtain ⟨r5, q5, h⟩ := bnd1_inv h
  refine kVI (n := 1) (As := [.int p2]) (rest := []) CF hl hK hP hD hS hA (c_X2_ableBits l D cI (a 1) (a 2) (a 3) (a 4) (a 5) (a 6) (a 7) (a 8) no p2 r5 q5) gX3_oneCouldSay_X2_ableBits rfl dX3_oneCouldSay_5 (by decide +kernel) ⟨⟨rfl, rfl⟩, ⟨Nat.le_of_ble_eq_true rfl, Nat.le_of_ble_eq_true rfl⟩, Nat.zero_le _, Nat.zero_le _⟩ (JN.ro [1, 2, 3, 4, 5, 6, 7, 8] rfl rfl) 1 rfl ⟨rfl, rfl⟩ rfl rfl (Nat.le_of_ble_eq_true rfl) (fun H locs hP hD hS => ?_)
  refine lv_istore_n (lv' := [(3, .int r5), (0, .ref (a 0)), (1, .int p1), (2, .int p2)]) hx hb dX3_oneCouldSay_8 rfl hl (by decide) rfl (fun ls hl => ?_)
  refine lv_iconst (v := 0) hx hb dX3_oneCouldSay_9 (by decide) ?_
  refine lv_istore (lv' := [(4, .int (0 : Int32)), (3, .int r5), (0, .ref (a 0)), (1, .int p1), (2, .int p2)]) hx hb dX3_oneCouldSay_10 hl (by decide) rfl (fun ls hl => ?_)
  exact L12 FU _ _ _ h  _ _ _ hP hD hS (lv_sub hl [2, 3, 1, 0] rfl)
/-! X3_leaveNothing -/
set_option maxHeartbeats 4000000 in
set_option maxRecDepth 100000 in
theorem c_X3_leaveNothing (l : Launch) (D : va_G) (cI : ClassId) (a : Nat → Nat) (no : SV) (mi : SV) (ke : SV) (hk : Int32) (sg : (Nat → Int32)) (lz : Int32) (rn : (Nat → Int32)) (rs : Int32) (rf : (Nat → Int32)) (be : (Nat → Int32)) (fh : (Nat → Int32)) (oh : (Nat → Int32)) (p1 : Int32) (res : Int32) (h : M_X3_leaveNothing no p1 = some res) : mI l yX3_leaveNothing wsX3_leaveNothing { frames := 4, cells := 0, slots := 0, locals := 94 } D cI [.ref (a 0), .int p1] (cX a cI no mi ke hk sg lz rn rs rf be fh oh) (cX a cI no mi ke hk sg lz rn rs rf be fh oh) res := by
  intro sz
  refine mStart (cc := cX3_leaveNothing) (maxL := 3) (ret := (some .boolean)) (own := RX3) (by decide) rfl rfl (Nat.le_of_ble_eq_true rfl) (lv := [(0, .ref (a 0)), (1, .int p1)]) rfl ?_
  intro p e s m args below meth c A ls Q H locs CF hr hlocks hK hP hD hS hA hAe hl hQ
  obtain ⟨hx, hb, hml, hown, hts⟩ := id CF
  have f10 := hts (.fieldLink RX3 10 "MendAnothersBreaking" "now" "LMendAnothersBreaking$State;") (List.mem_of_getElem? (i := 1) rfl)
  have f171 := hts (.fieldLink RX3 171 "MendAnothersBreaking$State" "things" "I") (List.mem_of_getElem? (i := 2) rfl)
  have i2 : ∀ w ∈ wsX20, w ∈ wsX3_leaveNothing := fun w h => List.mem_cons_of_mem _ (List.mem_append_right _ h)
  have i3 : ∀ w ∈ wsX30, w ∈ wsX3_leaveNothing := fun w h => List.mem_cons_of_mem _ (List.mem_append_left _ (List.mem_append_right _ h))
  have L2 : ∀ (n : Nat) (x1 : Int32) (x2 : Int32), fuel (fun _ => none) (B_X3_leaveNothing_2 x1 no) n x2 = some res → 
      ∀ (H : Heap) (locs : List Loc) (ls : Array Slot), va_P D vwCl (cX a cI no mi ke hk sg lz rn rs rf be fh oh) H → va_D A (cX a cI no mi ke hk sg lz rn rs rf be fh oh) → va_S A s.heap H locs → lv_has ls 3 [(0, .ref (a 0)), (1, .int x1), (2, .int x2)] → W p l e { frames := 4, cells := 0, slots := 0, locals := 94 } s m args below meth c H locs 0 0 Q (F0 m 2 ls []) := by
    intro n
    induction n with
    | zero =>
      intro x1 x2 h
      exact nomatch (show (none : Option (Int32)) = some res from h)
    | succ n ih =>
      intro x1 x2 h  H locs ls hP hD hS hl
      replace h : B_X3_leaveNothing_2 x1 no (fuel (fun _ => none) (B_X3_leaveNothing_2 x1 no) n) x2 = some res := h
      unfold B_X3_leaveNothing_2 at h
      refine lv_iload_n hx hb dX3_leaveNothing_2 rfl (lv_at hl 2 rfl) ?_
      refine lv_aload_n hx hb dX3_leaveNothing_3 rfl (lv_at hl 0 rfl) ?_
      refine va_get (D := D) (ci := 3) (v := .ref (a 1)) (C := RX3) (T := TX3) (N := 11) hx hb hts i3 hown hK hP 0 rfl rfl 0 (by decide) f10 (fun _ h9 => h9) rfl dX3_leaveNothing_4 ?_
      refine va_get (D := D) (ci := 2) (v := .int (sTh no)) (C := RX2) (T := TX2) (N := 10) hx hb hts i2 hown hK hP 1 rfl rfl 8 (by decide) f171 (fun _ h9 => h9) rfl dX3_leaveNothing_7 ?_
      refine lv_icmp_ge (tgt := 41) hx hb dX3_leaveNothing_10 (by decide) (fun c10 => ?_) (fun c10 => ?_)
      · replace h := fx_ite_t c10 h
        refine lv_iconst (v := 1) hx hb dX3_leaveNothing_41 (by decide) ?_
        obtain rfl := ret1 h
        exact rI hQ hx hb hr hlocks hAe hP hS rfl rfl dX3_leaveNothing_42
      · replace h := fx_ite_f c10 h
        refine lv_aload_n hx hb dX3_leaveNothing_13 rfl (lv_at hl 0 rfl) ?_
        refine va_get (D := D) (ci := 3) (v := .ref (a 1)) (C := RX3) (T := TX3) (N := 11) hx hb hts i3 hown hK hP 0 rfl rfl 0 (by decide) f10 (fun _ h9 => h9) rfl dX3_leaveNothing_14 ?_
        refine lv_iload_n hx hb dX3_leaveNothing_17 rfl (lv_at hl 2 rfl) ?_
        obtain ⟨r18, q18, h⟩ := bnd1_inv h
        refine kVI (n := 1) (As := [.int x2]) (rest := []) CF hl hK hP hD hS hA (c_X2_isMourned l D cI (a 1) (a 2) (a 3) (a 4) (a 5) (a 6) (a 7) (a 8) no x2 r18 q18) gX3_leaveNothing_X2_isMourned rfl dX3_leaveNothing_18 (by decide +kernel) ⟨⟨rfl, rfl⟩, ⟨Nat.le_of_ble_eq_true rfl, Nat.le_of_ble_eq_true rfl⟩, Nat.zero_le _, Nat.zero_le _⟩ (JN.ro [1, 2, 3, 4, 5, 6, 7, 8] rfl rfl) 1 rfl ⟨rfl, rfl⟩ rfl rfl (Nat.le_of_ble_eq_true rfl) (fun H locs hP hD hS => ?_)
        refine lv_if_eq (tgt := 35) hx hb dX3_leaveNothing_21 (by decide) (fun c21 => ?_) (fun c21 => ?_)
        · replace h := fx_ite_t c21 h
          refine lv_iinc (v := (x2 + 1)) (lv' := [(2, .int (x2 + 1)), (0, .ref (a 0)), (1, .int x1)]) hx hb dX3_leaveNothing_35 hl (k := 2) rfl (by first | rfl | decide) (by decide) rfl (fun ls hl => ?_)
          refine lv_goto (tgt := 2) hx hb dX3_leaveNothing_38 (by decide) ?_
          exact ih _ _ h  _ _ _ hP hD hS (lv_sub hl [1, 2, 0] rfl)
        · replace h := fx_ite_f c21 h
          refine lv_aload_n hx hb dX3_leaveNothing_24 rfl (lv_at hl 0 rfl) ?_
          refine lv_iload_n hx hb dX3_leaveNothing_25 rfl (lv_at hl 1 rfl) ?_
          refine lv_iload_n hx hb dX3_leaveNothing_26 rfl (lv_at hl 2 rfl) ?_
          obtain ⟨r27, q27, h⟩ := bnd1_inv h
          refine kVI (n := 2) (As := [.int x1, .int x2]) (rest := []) CF hl hK hP hD hS hA (c_X3_oneCouldSay l D cI a no mi ke hk sg lz rn rs rf be fh oh x1 x2 r27 q27) gX3_leaveNothing_X3_oneCouldSay rfl dX3_leaveNothing_27 (by decide +kernel) ⟨⟨rfl, rfl⟩, ⟨Nat.le_of_ble_eq_true rfl, Nat.le_of_ble_eq_true rfl⟩, Nat.zero_le _, Nat.zero_le _⟩ (JN.whole rfl) 0 rfl ⟨rfl, rfl⟩ rfl rfl (Nat.le_of_ble_eq_true rfl) (fun H locs hP hD hS => ?_)
          replace hP : va_P D vwCl (cX a cI no mi ke hk sg lz rn rs rf be fh oh) H := hP
          replace hD : va_D A (cX a cI no mi ke hk sg lz rn rs rf be fh oh) := hD
          refine lv_if_ne (tgt := 35) hx hb dX3_leaveNothing_30 (by decide) (fun c30 => ?_) (fun c30 => ?_)
          · replace h := fx_ite_f c30 h
            refine lv_iinc (v := (x2 + 1)) (lv' := [(2, .int (x2 + 1)), (0, .ref (a 0)), (1, .int x1)]) hx hb dX3_leaveNothing_35 hl (k := 2) rfl (by first | rfl | decide) (by decide) rfl (fun ls hl => ?_)
            refine lv_goto (tgt := 2) hx hb dX3_leaveNothing_38 (by decide) ?_
            exact ih _ _ h  _ _ _ hP hD hS (lv_sub hl [1, 2, 0] rfl)
          · replace h := fx_ite_t c30 h
            refine lv_iconst (v := 0) hx hb dX3_leaveNothing_33 (by decide) ?_
            obtain rfl := ret1 h
            exact rI hQ hx hb hr hlocks hAe hP hS rfl rfl dX3_leaveNothing_34
  unfold M_X3_leaveNothing at h
  refine lv_iconst (v := 0) hx hb dX3_leaveNothing_0 (by decide) ?_
  refine lv_istore_n (lv' := [(2, .int (0 : Int32)), (0, .ref (a 0)), (1, .int p1)]) hx hb dX3_leaveNothing_1 rfl hl (by decide) rfl (fun ls hl => ?_)
  exact L2 FU _ _ h  _ _ _ hP hD hS (lv_sub hl [1, 2, 0] rfl)
/-! X3_confessions -/
set_option maxHeartbeats 4000000 in
set_option maxRecDepth 100000 in
theorem c_X3_confessions (l : Launch) (D : va_G) (cI : ClassId) (a : Nat → Nat) (no : SV) (mi : SV) (ke : SV) (hk : Int32) (sg : (Nat → Int32)) (lz : Int32) (rn : (Nat → Int32)) (rs : Int32) (rf : (Nat → Int32)) (be : (Nat → Int32)) (fh : (Nat → Int32)) (oh : (Nat → Int32))  (res : Int32) (h : M_X3_confessions no = some res) : mI l yX3_confessions wsX3_confessions { frames := 5, cells := 0, slots := 0, locals := 116 } D cI [.ref (a 0)] (cX a cI no mi ke hk sg lz rn rs rf be fh oh) (cX a cI no mi ke hk sg lz rn rs rf be fh oh) res := by
  intro sz
  refine mStart (cc := cX3_confessions) (maxL := 5) (ret := (some .int)) (own := RX3) (by decide) rfl rfl (Nat.le_of_ble_eq_true rfl) (lv := [(0, .ref (a 0))]) rfl ?_
  intro p e s m args below meth c A ls Q H locs CF hr hlocks hK hP hD hS hA hAe hl hQ
  obtain ⟨hx, hb, hml, hown, hts⟩ := id CF
  have f10 := hts (.fieldLink RX3 10 "MendAnothersBreaking" "now" "LMendAnothersBreaking$State;") (List.mem_of_getElem? (i := 1) rfl)
  have f190 := hts (.fieldLink RX3 190 "MendAnothersBreaking$State" "people" "I") (List.mem_of_getElem? (i := 2) rfl)
  have i2 : ∀ w ∈ wsX20, w ∈ wsX3_confessions := fun w h => List.mem_cons_of_mem _ (List.mem_append_right _ h)
  have i3 : ∀ w ∈ wsX30, w ∈ wsX3_confessions := fun w h => List.mem_cons_of_mem _ (List.mem_append_left _ (List.mem_append_right _ h))
  have L8 : ∀ (n : Nat)  (x1 : Int32) (x2 : Int32) (x3 : Int32), fuel (fun _ _ _ => none) (B_X3_confessions_8 no) n x1 x2 x3 = some res → 
      ∀ (H : Heap) (locs : List Loc) (ls : Array Slot), va_P D vwCl (cX a cI no mi ke hk sg lz rn rs rf be fh oh) H → va_D A (cX a cI no mi ke hk sg lz rn rs rf be fh oh) → va_S A s.heap H locs → lv_has ls 5 [(0, .ref (a 0)), (1, .int x1), (2, .int x2), (3, .int x3)] → W p l e { frames := 5, cells := 0, slots := 0, locals := 116 } s m args below meth c H locs 0 0 Q (F0 m 8 ls []) := by
    intro n
    induction n with
    | zero =>
      intro x1 x2 x3 h
      exact nomatch (show (none : Option (Int32)) = some res from h)
    | succ n ih =>
      intro x1 x2 x3 h  H locs ls hP hD hS hl
      replace h : B_X3_confessions_8 no (fuel (fun _ _ _ => none) (B_X3_confessions_8 no) n) x1 x2 x3 = some res := h
      unfold B_X3_confessions_8 at h
      refine lv_iload_n hx hb dX3_confessions_8 rfl (lv_at hl 3 rfl) ?_
      refine lv_iconst (v := 1) hx hb dX3_confessions_9 (by decide) ?_
      refine lv_aload_n hx hb dX3_confessions_10 rfl (lv_at hl 0 rfl) ?_
      refine va_get (D := D) (ci := 3) (v := .ref (a 1)) (C := RX3) (T := TX3) (N := 11) hx hb hts i3 hown hK hP 0 rfl rfl 0 (by decide) f10 (fun _ h9 => h9) rfl dX3_confessions_11 ?_
      refine va_get (D := D) (ci := 2) (v := .int (sPe no)) (C := RX2) (T := TX2) (N := 10) hx hb hts i2 hown hK hP 1 rfl rfl 7 (by decide) f190 (fun _ h9 => h9) rfl dX3_confessions_14 ?_
      refine lv_ishl hx hb dX3_confessions_17 ?_
      refine lv_icmp_ge (tgt := 52) hx hb dX3_confessions_18 (by decide) (fun c18 => ?_) (fun c18 => ?_)
      · replace h := fx_ite_t c18 h
        refine lv_iload_n hx hb dX3_confessions_52 rfl (lv_at hl 1 rfl) ?_
        obtain rfl := ret1 h
        exact rI hQ hx hb hr hlocks hAe hP hS rfl rfl dX3_confessions_53
      · replace h := fx_ite_f c18 h
        refine lv_iload_n hx hb dX3_confessions_21 rfl (lv_at hl 3 rfl) ?_
        obtain ⟨r22, q22, h⟩ := bnd1_inv h
        refine kSI (n := 1) (As := [.int x3]) (rest := []) CF hl hK hP hD hS hA (c_J6_bitCount_0f7a4 l D cI   x3 r22 q22) gX3_confessions_J6_bitCount_0f7a4 rfl dX3_confessions_22 (by decide +kernel) ⟨⟨rfl, rfl⟩, ⟨Nat.le_of_ble_eq_true rfl, Nat.le_of_ble_eq_true rfl⟩, Nat.zero_le _, Nat.zero_le _⟩ (JN.ro [] rfl rfl) rfl rfl (Nat.le_of_ble_eq_true rfl) (fun H locs hP hD hS => ?_)
        refine lv_istore (lv' := [(4, .int r22), (0, .ref (a 0)), (1, .int x1), (2, .int x2), (3, .int x3)]) hx hb dX3_confessions_25 hl (by decide) rfl (fun ls hl => ?_)
        refine lv_iload hx hb dX3_confessions_27 (lv_at hl 0 rfl) ?_
        refine lv_iload_n hx hb dX3_confessions_29 rfl (lv_at hl 3 rfl) ?_
        refine lv_icmp_ge (tgt := 46) hx hb dX3_confessions_30 (by decide) (fun c30 => ?_) (fun c30 => ?_)
        · replace h := fx_ite_t c30 h
          refine lv_iinc (v := (x3 + 1)) (lv' := [(3, .int (x3 + 1)), (4, .int r22), (0, .ref (a 0)), (1, .int x1), (2, .int x2)]) hx hb dX3_confessions_46 hl (k := 4) rfl (by first | rfl | decide) (by decide) rfl (fun ls hl => ?_)
          refine lv_goto (tgt := 8) hx hb dX3_confessions_49 (by decide) ?_
          exact ih _ _ _ h  _ _ _ hP hD hS (lv_sub hl [2, 3, 4, 0] rfl)
        · replace h := fx_ite_f c30 h
          refine lv_aload_n hx hb dX3_confessions_33 rfl (lv_at hl 1 rfl) ?_
          refine lv_iload_n hx hb dX3_confessions_34 rfl (lv_at hl 4 rfl) ?_
          obtain ⟨r35, q35, h⟩ := bnd1_inv h
          refine kVI (n := 1) (As := [.int x3]) (rest := []) CF hl hK hP hD hS hA (c_X3_leaveNothing l D cI a no mi ke hk sg lz rn rs rf be fh oh x3 r35 q35) gX3_confessions_X3_leaveNothing rfl dX3_confessions_35 (by decide +kernel) ⟨⟨rfl, rfl⟩, ⟨Nat.le_of_ble_eq_true rfl, Nat.le_of_ble_eq_true rfl⟩, Nat.zero_le _, Nat.zero_le _⟩ (JN.whole rfl) 0 rfl ⟨rfl, rfl⟩ rfl rfl (Nat.le_of_ble_eq_true rfl) (fun H locs hP hD hS => ?_)
          replace hP : va_P D vwCl (cX a cI no mi ke hk sg lz rn rs rf be fh oh) H := hP
          replace hD : va_D A (cX a cI no mi ke hk sg lz rn rs rf be fh oh) := hD
          refine lv_if_eq (tgt := 46) hx hb dX3_confessions_38 (by decide) (fun c38 => ?_) (fun c38 => ?_)
          · replace h := fx_ite_t c38 h
            refine lv_iinc (v := (x3 + 1)) (lv' := [(3, .int (x3 + 1)), (4, .int r22), (0, .ref (a 0)), (1, .int x1), (2, .int x2)]) hx hb dX3_confessions_46 hl (k := 4) rfl (by first | rfl | decide) (by decide) rfl (fun ls hl => ?_)
            refine lv_goto (tgt := 8) hx hb dX3_confessions_49 (by decide) ?_
            exact ih _ _ _ h  _ _ _ hP hD hS (lv_sub hl [2, 3, 4, 0] rfl)
          · replace h := fx_ite_f c38 h
            refine lv_iload hx hb dX3_confessions_41 (lv_at hl 0 rfl) ?_
            refine lv_istore_n (lv' := [(2, .int r22), (4, .int r22), (0, .ref (a 0)), (1, .int x1), (3, .int x3)]) hx hb dX3_confessions_43 rfl hl (by decide) rfl (fun ls hl => ?_)
            refine lv_iload_n hx hb dX3_confessions_44 rfl (lv_at hl 4 rfl) ?_
            refine lv_istore_n (lv' := [(1, .int x3), (2, .int r22), (4, .int r22), (0, .ref (a 0)), (3, .int x3)]) hx hb dX3_confessions_45 rfl hl (by decide) rfl (fun ls hl => ?_)
            refine lv_iinc (v := (x3 + 1)) (lv' := [(3, .int (x3 + 1)), (1, .int x3), (2, .int r22), (4, .int r22), (0, .ref (a 0))]) hx hb dX3_confessions_46 hl (k := 4) rfl (by first | rfl | decide) (by decide) rfl (fun ls hl => ?_)
            refine lv_goto (tgt := 8) hx hb dX3_confessions_49 (by decide) ?_
            exact ih _ _ _ h  _ _ _ hP hD hS (lv_sub hl [4, 1, 2, 0] rfl)
  unfold M_X3_confessions at h
  refine lv_bipush (v := (-9)) hx hb dX3_confessions_0 (by decide) ?_
  refine lv_istore_n (lv' := [(1, .int (-9 : Int32)), (0, .ref (a 0))]) hx hb dX3_confessions_2 rfl hl (by decide) rfl (fun ls hl => ?_)
  refine lv_bipush (v := 7) hx hb dX3_confessions_3 (by decide) ?_
  refine lv_istore_n (lv' := [(2, .int (7 : Int32)), (1, .int (-9 : Int32)), (0, .ref (a 0))]) hx hb dX3_confessions_5 rfl hl (by decide) rfl (fun ls hl => ?_)
  refine lv_iconst (v := 0) hx hb dX3_confessions_6 (by decide) ?_
  refine lv_istore_n (lv' := [(3, .int (0 : Int32)), (2, .int (7 : Int32)), (1, .int (-9 : Int32)), (0, .ref (a 0))]) hx hb dX3_confessions_7 rfl hl (by decide) rfl (fun ls hl => ?_)
  exact L8 FU _ _ _ h  _ _ _ hP hD hS (lv_sub hl [3, 2, 1, 0] rfl)
/-! X3_learns -/
set_option maxHeartbeats 4000000 in
set_option maxRecDepth 100000 in
theorem c_X3_learns (l : Launch) (D : va_G) (cI : ClassId) (a : Nat → Nat) (no : SV) (mi : SV) (ke : SV) (hk : Int32) (sg : (Nat → Int32)) (lz : Int32) (rn : (Nat → Int32)) (rs : Int32) (rf : (Nat → Int32)) (be : (Nat → Int32)) (fh : (Nat → Int32)) (oh : (Nat → Int32)) (p1 : Int32) (res : Int32) (u_mi : SV) (u_rf : (Nat → Int32)) (h : M_X3_learns no mi rf p1 = some (res, u_mi, u_rf)) : mI l yX3_learns wsX3_learns { frames := 6, cells := 0, slots := 0, locals := 136 } D cI [.ref (a 0), .int p1] (cX a cI no mi ke hk sg lz rn rs rf be fh oh) (cX a cI no u_mi ke hk sg lz rn rs u_rf be fh oh) res := by
  intro sz
  refine mStart (cc := cX3_learns) (maxL := 6) (ret := (some .int)) (own := RX3) (by decide) rfl rfl (Nat.le_of_ble_eq_true rfl) (lv := [(0, .ref (a 0)), (1, .int p1)]) rfl ?_
  intro p e s m args below meth c A ls Q H locs CF hr hlocks hK hP hD hS hA hAe hl hQ
  obtain ⟨hx, hb, hml, hown, hts⟩ := id CF
  have f10 := hts (.fieldLink RX3 10 "MendAnothersBreaking" "now" "LMendAnothersBreaking$State;") (List.mem_of_getElem? (i := 1) rfl)
  have f16 := hts (.fieldLink RX3 16 "MendAnothersBreaking" "mind" "LMendAnothersBreaking$State;") (List.mem_of_getElem? (i := 3) rfl)
  have f87 := hts (.fieldLink RX3 87 "MendAnothersBreaking$State" "skills" "[I") (List.mem_of_getElem? (i := 4) rfl)
  have f190 := hts (.fieldLink RX3 190 "MendAnothersBreaking$State" "people" "I") (List.mem_of_getElem? (i := 2) rfl)
  have i2 : ∀ w ∈ wsX20, w ∈ wsX3_learns := fun w h => List.mem_cons_of_mem _ (List.mem_append_right _ h)
  have i3 : ∀ w ∈ wsX30, w ∈ wsX3_learns := fun w h => List.mem_cons_of_mem _ (List.mem_append_left _ (List.mem_append_right _ h))
  have L31 : ∀ (n : Nat) (x1 : Int32) (rf : (Nat → Int32)) (x3 : Int32) (x4 : Int32) (x5 : Int32) (mi : SV), fuel (fun _ _ _ _ => none) (B_X3_learns_31 x1 no rf) n x3 x4 x5 mi = some (res, u_mi, u_rf) → 
      ∀ (H : Heap) (locs : List Loc) (ls : Array Slot), va_P D vwCl (cX a cI no mi ke hk sg lz rn rs rf be fh oh) H → va_D A (cX a cI no mi ke hk sg lz rn rs rf be fh oh) → va_S A s.heap H locs → lv_has ls 6 [(0, .ref (a 0)), (1, .int x1), (3, .int x3), (4, .int x4), (5, .int x5)] → W p l e { frames := 6, cells := 0, slots := 0, locals := 136 } s m args below meth c H locs 0 0 Q (F0 m 31 ls []) := by
    intro n
    induction n with
    | zero =>
      intro x1 rf x3 x4 x5 mi h
      exact nomatch (show (none : Option (Int32 × SV × (Nat → Int32))) = some (res, u_mi, u_rf) from h)
    | succ n ih =>
      intro x1 rf x3 x4 x5 mi h  H locs ls hP hD hS hl
      replace h : B_X3_learns_31 x1 no rf (fuel (fun _ _ _ _ => none) (B_X3_learns_31 x1 no rf) n) x3 x4 x5 mi = some (res, u_mi, u_rf) := h
      unfold B_X3_learns_31 at h
      refine lv_iload hx hb dX3_learns_31 (lv_at hl 4 rfl) ?_
      refine lv_aload_n hx hb dX3_learns_33 rfl (lv_at hl 0 rfl) ?_
      refine va_get (D := D) (ci := 3) (v := .ref (a 1)) (C := RX3) (T := TX3) (N := 11) hx hb hts i3 hown hK hP 0 rfl rfl 0 (by decide) f10 (fun _ h9 => h9) rfl dX3_learns_34 ?_
      refine va_get (D := D) (ci := 2) (v := .int (sPe no)) (C := RX2) (T := TX2) (N := 10) hx hb hts i2 hown hK hP 1 rfl rfl 7 (by decide) f190 (fun _ h9 => h9) rfl dX3_learns_37 ?_
      refine lv_icmp_ge (tgt := 107) hx hb dX3_learns_40 (by decide) (fun c40 => ?_) (fun c40 => ?_)
      · replace h := fx_ite_t c40 h
        refine lv_iload_n hx hb dX3_learns_107 rfl (lv_at hl 2 rfl) ?_
        obtain ⟨rfl, rfl, rfl⟩ := ret3 h
        exact rI hQ hx hb hr hlocks hAe hP hS rfl rfl dX3_learns_108
      · replace h := fx_ite_f c40 h
        refine lv_aload_n hx hb dX3_learns_43 rfl (lv_at hl 0 rfl) ?_
        refine va_get (D := D) (ci := 3) (v := .ref (a 9)) (C := RX3) (T := TX3) (N := 11) hx hb hts i3 hown hK hP 0 rfl rfl 1 (by decide) f16 (fun _ h9 => h9) rfl dX3_learns_44 ?_
        refine lv_aload_n hx hb dX3_learns_47 rfl (lv_at hl 0 rfl) ?_
        refine va_get (D := D) (ci := 3) (v := .ref (a 1)) (C := RX3) (T := TX3) (N := 11) hx hb hts i3 hown hK hP 0 rfl rfl 0 (by decide) f10 (fun _ h9 => h9) rfl dX3_learns_48 ?_
        obtain ⟨u51_mi, q51, h⟩ := bnd1_inv h
        refine kVV (n := 1) (As := [.ref (a 1)]) (rest := []) CF hl hK hP hD hS hA (c_X2_become l D cI (a 9) (a 10) (a 11) (a 12) (a 13) (a 14) (a 15) (a 16) (a 1) (a 2) (a 3) (a 4) (a 5) (a 6) (a 7) (a 8) mi no  u51_mi q51) gX3_learns_X2_become rfl dX3_learns_51 (by decide +kernel) ⟨⟨rfl, rfl⟩, ⟨Nat.le_of_ble_eq_true rfl, Nat.le_of_ble_eq_true rfl⟩, Nat.zero_le _, Nat.zero_le _⟩ (JN.sub (wst' := (cX a cI no u51_mi ke hk sg lz rn rs rf be fh oh)) [9, 10, 11, 12, 13, 14, 15, 16, 1, 2, 3, 4, 5, 6, 7, 8] rfl rfl rfl rfl) 9 rfl ⟨rfl, rfl⟩ rfl rfl (Nat.le_of_ble_eq_true rfl) (fun H locs hP hD hS => ?_)
        replace hP : va_P D vwCl (cX a cI no u51_mi ke hk sg lz rn rs rf be fh oh) H := hP
        replace hD : va_D A (cX a cI no u51_mi ke hk sg lz rn rs rf be fh oh) := hD
        refine lv_aload_n hx hb dX3_learns_54 rfl (lv_at hl 0 rfl) ?_
        refine va_get (D := D) (ci := 3) (v := .ref (a 9)) (C := RX3) (T := TX3) (N := 11) hx hb hts i3 hown hK hP 0 rfl rfl 1 (by decide) f16 (fun _ h9 => h9) rfl dX3_learns_55 ?_
        refine va_get (D := D) (ci := 2) (v := .ref (a 10)) (C := RX2) (T := TX2) (N := 10) hx hb hts i2 hown hK hP 9 rfl rfl 0 (by decide) f87 (fun _ h9 => h9) rfl dX3_learns_58 ?_
        refine lv_iload hx hb dX3_learns_61 (lv_at hl 4 rfl) ?_
        refine lv_bipush (v := 9) hx hb dX3_learns_63 (by decide) ?_
        obtain ⟨g65, h⟩ := chk_inv h
        refine va_iast (n := 6) (f := (sSk u51_mi)) hx hb hK hP hD hS 10 0 rfl rfl g65 dX3_learns_65 (fun H locs hP hD hS => ?_)
        replace hP : va_P D vwCl (cX a cI no (sUSk u51_mi (upd (sSk u51_mi) (Int32.toNatClampNeg x5) (9 : Int32))) ke hk sg lz rn rs rf be fh oh) H := hP
        replace hD : va_D A (cX a cI no (sUSk u51_mi (upd (sSk u51_mi) (Int32.toNatClampNeg x5) (9 : Int32))) ke hk sg lz rn rs rf be fh oh) := hD
        refine lv_aload_n hx hb dX3_learns_66 rfl (lv_at hl 0 rfl) ?_
        refine va_get (D := D) (ci := 3) (v := .ref (a 9)) (C := RX3) (T := TX3) (N := 11) hx hb hts i3 hown hK hP 0 rfl rfl 1 (by decide) f16 (fun _ h9 => h9) rfl dX3_learns_67 ?_
        refine lv_iload_n hx hb dX3_learns_70 rfl (lv_at hl 1 rfl) ?_
        refine lv_iconst (v := 1) hx hb dX3_learns_71 (by decide) ?_
        refine lv_bipush (v := (-9)) hx hb dX3_learns_72 (by decide) ?_
        obtain ⟨u74_mi, q74, h⟩ := bnd1_inv h
        refine kVV (n := 3) (As := [.int x1, .int (1 : Int32), .int (-9 : Int32)]) (rest := []) CF hl hK hP hD hS hA (c_X2_pass l D cI (a 9) (a 10) (a 11) (a 12) (a 13) (a 14) (a 15) (a 16) (sUSk u51_mi (upd (sSk u51_mi) (Int32.toNatClampNeg x5) (9 : Int32))) x1 (1 : Int32) (-9 : Int32) u74_mi q74) gX3_learns_X2_pass rfl dX3_learns_74 (by decide +kernel) ⟨⟨rfl, rfl⟩, ⟨Nat.le_of_ble_eq_true rfl, Nat.le_of_ble_eq_true rfl⟩, Nat.zero_le _, Nat.zero_le _⟩ (JN.sub (wst' := (cX a cI no u74_mi ke hk sg lz rn rs rf be fh oh)) [9, 10, 11, 12, 13, 14, 15, 16] rfl rfl rfl rfl) 9 rfl ⟨rfl, rfl⟩ rfl rfl (Nat.le_of_ble_eq_true rfl) (fun H locs hP hD hS => ?_)
        replace hP : va_P D vwCl (cX a cI no u74_mi ke hk sg lz rn rs rf be fh oh) H := hP
        replace hD : va_D A (cX a cI no u74_mi ke hk sg lz rn rs rf be fh oh) := hD
        refine lv_aload_n hx hb dX3_learns_77 rfl (lv_at hl 0 rfl) ?_
        refine va_get (D := D) (ci := 3) (v := .ref (a 9)) (C := RX3) (T := TX3) (N := 11) hx hb hts i3 hown hK hP 0 rfl rfl 1 (by decide) f16 (fun _ h9 => h9) rfl dX3_learns_78 ?_
        obtain ⟨r81, q81, h⟩ := bnd1_inv h
        refine kVI (n := 0) (As := []) (rest := []) CF hl hK hP hD hS hA (c_X2_wholeCount l D cI (a 9) (a 10) (a 11) (a 12) (a 13) (a 14) (a 15) (a 16) u74_mi  r81 q81) gX3_learns_X2_wholeCount rfl dX3_learns_81 (by decide +kernel) ⟨⟨rfl, rfl⟩, ⟨Nat.le_of_ble_eq_true rfl, Nat.le_of_ble_eq_true rfl⟩, Nat.zero_le _, Nat.zero_le _⟩ (JN.ro [9, 10, 11, 12, 13, 14, 15, 16] rfl rfl) 9 rfl ⟨rfl, rfl⟩ rfl rfl (Nat.le_of_ble_eq_true rfl) (fun H locs hP hD hS => ?_)
        refine lv_iload hx hb dX3_learns_84 (lv_at hl 3 rfl) ?_
        refine lv_icmp_le (tgt := 101) hx hb dX3_learns_86 (by decide) (fun c86 => ?_) (fun c86 => ?_)
        · replace h := fx_ite_t c86 h
          refine lv_iinc (v := (x5 + 1)) (lv' := [(5, .int (x5 + 1)), (0, .ref (a 0)), (1, .int x1), (3, .int x3), (4, .int x4)]) hx hb dX3_learns_101 hl (k := 4) rfl (by first | rfl | decide) (by decide) rfl (fun ls hl => ?_)
          refine lv_goto (tgt := 31) hx hb dX3_learns_104 (by decide) ?_
          exact ih _ _ _ _ _ _ h  _ _ _ hP hD hS (lv_sub hl [1, 2, 3, 4, 0] rfl)
        · replace h := fx_ite_f c86 h
          refine lv_aload_n hx hb dX3_learns_89 rfl (lv_at hl 0 rfl) ?_
          refine va_get (D := D) (ci := 3) (v := .ref (a 9)) (C := RX3) (T := TX3) (N := 11) hx hb hts i3 hown hK hP 0 rfl rfl 1 (by decide) f16 (fun _ h9 => h9) rfl dX3_learns_90 ?_
          obtain ⟨r93, q93, h⟩ := bnd1_inv h
          refine kVI (n := 0) (As := []) (rest := []) CF hl hK hP hD hS hA (c_X2_wholeCount l D cI (a 9) (a 10) (a 11) (a 12) (a 13) (a 14) (a 15) (a 16) u74_mi  r93 q93) gX3_learns_X2_wholeCount rfl dX3_learns_93 (by decide +kernel) ⟨⟨rfl, rfl⟩, ⟨Nat.le_of_ble_eq_true rfl, Nat.le_of_ble_eq_true rfl⟩, Nat.zero_le _, Nat.zero_le _⟩ (JN.ro [9, 10, 11, 12, 13, 14, 15, 16] rfl rfl) 9 rfl ⟨rfl, rfl⟩ rfl rfl (Nat.le_of_ble_eq_true rfl) (fun H locs hP hD hS => ?_)
          refine lv_istore (lv' := [(4, .int r93), (0, .ref (a 0)), (1, .int x1), (3, .int x3), (5, .int x5)]) hx hb dX3_learns_96 hl (by decide) rfl (fun ls hl => ?_)
          refine lv_iload hx hb dX3_learns_98 (lv_at hl 4 rfl) ?_
          refine lv_istore_n (lv' := [(3, .int x5), (4, .int r93), (0, .ref (a 0)), (1, .int x1), (5, .int x5)]) hx hb dX3_learns_100 rfl hl (by decide) rfl (fun ls hl => ?_)
          refine lv_iinc (v := (x5 + 1)) (lv' := [(5, .int (x5 + 1)), (3, .int x5), (4, .int r93), (0, .ref (a 0)), (1, .int x1)]) hx hb dX3_learns_101 hl (k := 4) rfl (by first | rfl | decide) (by decide) rfl (fun ls hl => ?_)
          refine lv_goto (tgt := 31) hx hb dX3_learns_104 (by decide) ?_
          exact ih _ _ _ _ _ _ h  _ _ _ hP hD hS (lv_sub hl [3, 4, 1, 2, 0] rfl)
  unfold M_X3_learns at h
  refine lv_iload_n hx hb dX3_learns_0 rfl (lv_at hl 1 rfl) ?_
  refine lv_iconst (v := 0) hx hb dX3_learns_1 (by decide) ?_
  refine lv_bipush (v := 99) hx hb dX3_learns_2 (by decide) ?_
  obtain ⟨r4, q4, h⟩ := bnd1_inv h
  refine kSI (n := 3) (As := [.int p1, .int (0 : Int32), .int (99 : Int32)]) (rest := []) CF hl hK hP hD hS hA (c_X3_outside l D cI   p1 (0 : Int32) (99 : Int32) r4 q4) gX3_learns_X3_outside rfl dX3_learns_4 (by decide +kernel) ⟨⟨rfl, rfl⟩, ⟨Nat.le_of_ble_eq_true rfl, Nat.le_of_ble_eq_true rfl⟩, Nat.zero_le _, Nat.zero_le _⟩ (JN.ro [] rfl rfl) rfl rfl (Nat.le_of_ble_eq_true rfl) (fun H locs hP hD hS => ?_)
  refine lv_istore_n (lv' := [(2, .int r4), (0, .ref (a 0)), (1, .int p1)]) hx hb dX3_learns_7 rfl hl (by decide) rfl (fun ls hl => ?_)
  refine lv_iload_n hx hb dX3_learns_8 rfl (lv_at hl 0 rfl) ?_
  refine lv_if_eq (tgt := 18) hx hb dX3_learns_9 (by decide) (fun c9 => ?_) (fun c9 => ?_)
  · replace h := fx_ite_t c9 h
    refine lv_bipush (v := (-9)) hx hb dX3_learns_18 (by decide) ?_
    refine lv_istore_n (lv' := [(3, .int (-9 : Int32)), (2, .int r4), (0, .ref (a 0)), (1, .int p1)]) hx hb dX3_learns_20 rfl hl (by decide) rfl (fun ls hl => ?_)
    refine lv_aload_n hx hb dX3_learns_21 rfl (lv_at hl 2 rfl) ?_
    refine lv_iload_n hx hb dX3_learns_22 rfl (lv_at hl 3 rfl) ?_
    obtain ⟨r23, u23_mi, q23, h⟩ := bnd2_inv h
    refine kVI (n := 1) (As := [.int p1]) (rest := []) CF hl hK hP hD hS hA (c_X3_wholeBehind l D cI a no mi ke hk sg lz rn rs rf be fh oh p1 r23 u23_mi q23) gX3_learns_X3_wholeBehind rfl dX3_learns_23 (by decide +kernel) ⟨⟨rfl, rfl⟩, ⟨Nat.le_of_ble_eq_true rfl, Nat.le_of_ble_eq_true rfl⟩, Nat.zero_le _, Nat.zero_le _⟩ (JN.whole (w1 := (cX a cI no u23_mi ke hk sg lz rn rs rf be fh oh)) rfl) 0 rfl ⟨rfl, rfl⟩ rfl rfl (Nat.le_of_ble_eq_true rfl) (fun H locs hP hD hS => ?_)
    replace hP : va_P D vwCl (cX a cI no u23_mi ke hk sg lz rn rs rf be fh oh) H := hP
    replace hD : va_D A (cX a cI no u23_mi ke hk sg lz rn rs rf be fh oh) := hD
    refine lv_istore (lv' := [(4, .int r23), (3, .int (-9 : Int32)), (2, .int r4), (0, .ref (a 0)), (1, .int p1)]) hx hb dX3_learns_26 hl (by decide) rfl (fun ls hl => ?_)
    refine lv_iconst (v := 0) hx hb dX3_learns_28 (by decide) ?_
    refine lv_istore (lv' := [(5, .int (0 : Int32)), (4, .int r23), (3, .int (-9 : Int32)), (2, .int r4), (0, .ref (a 0)), (1, .int p1)]) hx hb dX3_learns_29 hl (by decide) rfl (fun ls hl => ?_)
    exact L31 FU _ _ _ _ _ _ h  _ _ _ hP hD hS (lv_sub hl [4, 5, 2, 1, 0] rfl)
  · replace h := fx_ite_f c9 h
    refine lv_aload_n hx hb dX3_learns_12 rfl (lv_at hl 1 rfl) ?_
    refine lv_iload_n hx hb dX3_learns_13 rfl (lv_at hl 0 rfl) ?_
    obtain ⟨r14, u14_rf, q14, h⟩ := bnd2_inv h
    refine kVI (n := 1) (As := [.int r4]) (rest := []) CF hl hK hP hD hS hA (c_X3_refuse l D cI a no mi ke hk sg lz rn rs rf be fh oh r4 r14 u14_rf q14) gX3_learns_X3_refuse rfl dX3_learns_14 (by decide +kernel) ⟨⟨rfl, rfl⟩, ⟨Nat.le_of_ble_eq_true rfl, Nat.le_of_ble_eq_true rfl⟩, Nat.zero_le _, Nat.zero_le _⟩ (JN.whole (w1 := (cX a cI no mi ke hk sg lz rn rs u14_rf be fh oh)) rfl) 0 rfl ⟨rfl, rfl⟩ rfl rfl (Nat.le_of_ble_eq_true rfl) (fun H locs hP hD hS => ?_)
    replace hP : va_P D vwCl (cX a cI no mi ke hk sg lz rn rs u14_rf be fh oh) H := hP
    replace hD : va_D A (cX a cI no mi ke hk sg lz rn rs u14_rf be fh oh) := hD
    obtain ⟨rfl, rfl, rfl⟩ := ret3 h
    exact rI hQ hx hb hr hlocks hAe hP hS rfl rfl dX3_learns_17
/-! X3_missed -/
set_option maxHeartbeats 4000000 in
set_option maxRecDepth 100000 in
theorem c_X3_missed (l : Launch) (D : va_G) (cI : ClassId) (a : Nat → Nat) (no : SV) (mi : SV) (ke : SV) (hk : Int32) (sg : (Nat → Int32)) (lz : Int32) (rn : (Nat → Int32)) (rs : Int32) (rf : (Nat → Int32)) (be : (Nat → Int32)) (fh : (Nat → Int32)) (oh : (Nat → Int32)) (p1 : Int32) (res : Int32) (u_mi : SV) (u_rf : (Nat → Int32)) (h : M_X3_missed no mi rf p1 = some (res, u_mi, u_rf)) : mI l yX3_missed wsX3_missed { frames := 5, cells := 0, slots := 0, locals := 115 } D cI [.ref (a 0), .int p1] (cX a cI no mi ke hk sg lz rn rs rf be fh oh) (cX a cI no u_mi ke hk sg lz rn rs u_rf be fh oh) res := by
  intro sz
  refine mStart (cc := cX3_missed) (maxL := 6) (ret := (some .int)) (own := RX3) (by decide) rfl rfl (Nat.le_of_ble_eq_true rfl) (lv := [(0, .ref (a 0)), (1, .int p1)]) rfl ?_
  intro p e s m args below meth c A ls Q H locs CF hr hlocks hK hP hD hS hA hAe hl hQ
  obtain ⟨hx, hb, hml, hown, hts⟩ := id CF
  have f10 := hts (.fieldLink RX3 10 "MendAnothersBreaking" "now" "LMendAnothersBreaking$State;") (List.mem_of_getElem? (i := 1) rfl)
  have f16 := hts (.fieldLink RX3 16 "MendAnothersBreaking" "mind" "LMendAnothersBreaking$State;") (List.mem_of_getElem? (i := 3) rfl)
  have f190 := hts (.fieldLink RX3 190 "MendAnothersBreaking$State" "people" "I") (List.mem_of_getElem? (i := 2) rfl)
  have i2 : ∀ w ∈ wsX20, w ∈ wsX3_missed := fun w h => List.mem_cons_of_mem _ (List.mem_append_right _ h)
  have i3 : ∀ w ∈ wsX30, w ∈ wsX3_missed := fun w h => List.mem_cons_of_mem _ (List.mem_append_left _ (List.mem_append_right _ h))
  have L28 : ∀ (n : Nat) (x1 : Int32) (rf : (Nat → Int32)) (x3 : Int32) (x4 : Int32) (x5 : Int32) (mi : SV), fuel (fun _ _ _ _ => none) (B_X3_missed_28 x1 no rf) n x3 x4 x5 mi = some (res, u_mi, u_rf) → 
      ∀ (H : Heap) (locs : List Loc) (ls : Array Slot), va_P D vwCl (cX a cI no mi ke hk sg lz rn rs rf be fh oh) H → va_D A (cX a cI no mi ke hk sg lz rn rs rf be fh oh) → va_S A s.heap H locs → lv_has ls 6 [(0, .ref (a 0)), (1, .int x1), (3, .int x3), (4, .int x4), (5, .int x5)] → W p l e { frames := 5, cells := 0, slots := 0, locals := 115 } s m args below meth c H locs 0 0 Q (F0 m 28 ls []) := by
    intro n
    induction n with
    | zero =>
      intro x1 rf x3 x4 x5 mi h
      exact nomatch (show (none : Option (Int32 × SV × (Nat → Int32))) = some (res, u_mi, u_rf) from h)
    | succ n ih =>
      intro x1 rf x3 x4 x5 mi h  H locs ls hP hD hS hl
      replace h : B_X3_missed_28 x1 no rf (fuel (fun _ _ _ _ => none) (B_X3_missed_28 x1 no rf) n) x3 x4 x5 mi = some (res, u_mi, u_rf) := h
      unfold B_X3_missed_28 at h
      refine lv_iload hx hb dX3_missed_28 (lv_at hl 4 rfl) ?_
      refine lv_aload_n hx hb dX3_missed_30 rfl (lv_at hl 0 rfl) ?_
      refine va_get (D := D) (ci := 3) (v := .ref (a 1)) (C := RX3) (T := TX3) (N := 11) hx hb hts i3 hown hK hP 0 rfl rfl 0 (by decide) f10 (fun _ h9 => h9) rfl dX3_missed_31 ?_
      refine va_get (D := D) (ci := 2) (v := .int (sPe no)) (C := RX2) (T := TX2) (N := 10) hx hb hts i2 hown hK hP 1 rfl rfl 7 (by decide) f190 (fun _ h9 => h9) rfl dX3_missed_34 ?_
      refine lv_icmp_ge (tgt := 92) hx hb dX3_missed_37 (by decide) (fun c37 => ?_) (fun c37 => ?_)
      · replace h := fx_ite_t c37 h
        refine lv_iload_n hx hb dX3_missed_92 rfl (lv_at hl 2 rfl) ?_
        obtain ⟨rfl, rfl, rfl⟩ := ret3 h
        exact rI hQ hx hb hr hlocks hAe hP hS rfl rfl dX3_missed_93
      · replace h := fx_ite_f c37 h
        refine lv_aload_n hx hb dX3_missed_40 rfl (lv_at hl 0 rfl) ?_
        refine va_get (D := D) (ci := 3) (v := .ref (a 9)) (C := RX3) (T := TX3) (N := 11) hx hb hts i3 hown hK hP 0 rfl rfl 1 (by decide) f16 (fun _ h9 => h9) rfl dX3_missed_41 ?_
        refine lv_aload_n hx hb dX3_missed_44 rfl (lv_at hl 0 rfl) ?_
        refine va_get (D := D) (ci := 3) (v := .ref (a 1)) (C := RX3) (T := TX3) (N := 11) hx hb hts i3 hown hK hP 0 rfl rfl 0 (by decide) f10 (fun _ h9 => h9) rfl dX3_missed_45 ?_
        obtain ⟨u48_mi, q48, h⟩ := bnd1_inv h
        refine kVV (n := 1) (As := [.ref (a 1)]) (rest := []) CF hl hK hP hD hS hA (c_X2_become l D cI (a 9) (a 10) (a 11) (a 12) (a 13) (a 14) (a 15) (a 16) (a 1) (a 2) (a 3) (a 4) (a 5) (a 6) (a 7) (a 8) mi no  u48_mi q48) gX3_missed_X2_become rfl dX3_missed_48 (by decide +kernel) ⟨⟨rfl, rfl⟩, ⟨Nat.le_of_ble_eq_true rfl, Nat.le_of_ble_eq_true rfl⟩, Nat.zero_le _, Nat.zero_le _⟩ (JN.sub (wst' := (cX a cI no u48_mi ke hk sg lz rn rs rf be fh oh)) [9, 10, 11, 12, 13, 14, 15, 16, 1, 2, 3, 4, 5, 6, 7, 8] rfl rfl rfl rfl) 9 rfl ⟨rfl, rfl⟩ rfl rfl (Nat.le_of_ble_eq_true rfl) (fun H locs hP hD hS => ?_)
        replace hP : va_P D vwCl (cX a cI no u48_mi ke hk sg lz rn rs rf be fh oh) H := hP
        replace hD : va_D A (cX a cI no u48_mi ke hk sg lz rn rs rf be fh oh) := hD
        refine lv_aload_n hx hb dX3_missed_51 rfl (lv_at hl 0 rfl) ?_
        refine va_get (D := D) (ci := 3) (v := .ref (a 9)) (C := RX3) (T := TX3) (N := 11) hx hb hts i3 hown hK hP 0 rfl rfl 1 (by decide) f16 (fun _ h9 => h9) rfl dX3_missed_52 ?_
        refine lv_iload_n hx hb dX3_missed_55 rfl (lv_at hl 1 rfl) ?_
        refine lv_iconst (v := 1) hx hb dX3_missed_56 (by decide) ?_
        refine lv_iload hx hb dX3_missed_57 (lv_at hl 4 rfl) ?_
        obtain ⟨u59_mi, q59, h⟩ := bnd1_inv h
        refine kVV (n := 3) (As := [.int x1, .int (1 : Int32), .int x5]) (rest := []) CF hl hK hP hD hS hA (c_X2_pass l D cI (a 9) (a 10) (a 11) (a 12) (a 13) (a 14) (a 15) (a 16) u48_mi x1 (1 : Int32) x5 u59_mi q59) gX3_missed_X2_pass rfl dX3_missed_59 (by decide +kernel) ⟨⟨rfl, rfl⟩, ⟨Nat.le_of_ble_eq_true rfl, Nat.le_of_ble_eq_true rfl⟩, Nat.zero_le _, Nat.zero_le _⟩ (JN.sub (wst' := (cX a cI no u59_mi ke hk sg lz rn rs rf be fh oh)) [9, 10, 11, 12, 13, 14, 15, 16] rfl rfl rfl rfl) 9 rfl ⟨rfl, rfl⟩ rfl rfl (Nat.le_of_ble_eq_true rfl) (fun H locs hP hD hS => ?_)
        replace hP : va_P D vwCl (cX a cI no u59_mi ke hk sg lz rn rs rf be fh oh) H := hP
        replace hD : va_D A (cX a cI no u59_mi ke hk sg lz rn rs rf be fh oh) := hD
        refine lv_aload_n hx hb dX3_missed_62 rfl (lv_at hl 0 rfl) ?_
        refine va_get (D := D) (ci := 3) (v := .ref (a 9)) (C := RX3) (T := TX3) (N := 11) hx hb hts i3 hown hK hP 0 rfl rfl 1 (by decide) f16 (fun _ h9 => h9) rfl dX3_missed_63 ?_
        obtain ⟨r66, q66, h⟩ := bnd1_inv h
        refine kVI (n := 0) (As := []) (rest := []) CF hl hK hP hD hS hA (c_X2_wholeCount l D cI (a 9) (a 10) (a 11) (a 12) (a 13) (a 14) (a 15) (a 16) u59_mi  r66 q66) gX3_missed_X2_wholeCount rfl dX3_missed_66 (by decide +kernel) ⟨⟨rfl, rfl⟩, ⟨Nat.le_of_ble_eq_true rfl, Nat.le_of_ble_eq_true rfl⟩, Nat.zero_le _, Nat.zero_le _⟩ (JN.ro [9, 10, 11, 12, 13, 14, 15, 16] rfl rfl) 9 rfl ⟨rfl, rfl⟩ rfl rfl (Nat.le_of_ble_eq_true rfl) (fun H locs hP hD hS => ?_)
        refine lv_iload hx hb dX3_missed_69 (lv_at hl 3 rfl) ?_
        refine lv_icmp_ge (tgt := 86) hx hb dX3_missed_71 (by decide) (fun c71 => ?_) (fun c71 => ?_)
        · replace h := fx_ite_t c71 h
          refine lv_iinc (v := (x5 + 1)) (lv' := [(5, .int (x5 + 1)), (0, .ref (a 0)), (1, .int x1), (3, .int x3), (4, .int x4)]) hx hb dX3_missed_86 hl (k := 4) rfl (by first | rfl | decide) (by decide) rfl (fun ls hl => ?_)
          refine lv_goto (tgt := 28) hx hb dX3_missed_89 (by decide) ?_
          exact ih _ _ _ _ _ _ h  _ _ _ hP hD hS (lv_sub hl [1, 2, 3, 4, 0] rfl)
        · replace h := fx_ite_f c71 h
          refine lv_aload_n hx hb dX3_missed_74 rfl (lv_at hl 0 rfl) ?_
          refine va_get (D := D) (ci := 3) (v := .ref (a 9)) (C := RX3) (T := TX3) (N := 11) hx hb hts i3 hown hK hP 0 rfl rfl 1 (by decide) f16 (fun _ h9 => h9) rfl dX3_missed_75 ?_
          obtain ⟨r78, q78, h⟩ := bnd1_inv h
          refine kVI (n := 0) (As := []) (rest := []) CF hl hK hP hD hS hA (c_X2_wholeCount l D cI (a 9) (a 10) (a 11) (a 12) (a 13) (a 14) (a 15) (a 16) u59_mi  r78 q78) gX3_missed_X2_wholeCount rfl dX3_missed_78 (by decide +kernel) ⟨⟨rfl, rfl⟩, ⟨Nat.le_of_ble_eq_true rfl, Nat.le_of_ble_eq_true rfl⟩, Nat.zero_le _, Nat.zero_le _⟩ (JN.ro [9, 10, 11, 12, 13, 14, 15, 16] rfl rfl) 9 rfl ⟨rfl, rfl⟩ rfl rfl (Nat.le_of_ble_eq_true rfl) (fun H locs hP hD hS => ?_)
          refine lv_istore (lv' := [(4, .int r78), (0, .ref (a 0)), (1, .int x1), (3, .int x3), (5, .int x5)]) hx hb dX3_missed_81 hl (by decide) rfl (fun ls hl => ?_)
          refine lv_iload hx hb dX3_missed_83 (lv_at hl 4 rfl) ?_
          refine lv_istore_n (lv' := [(3, .int x5), (4, .int r78), (0, .ref (a 0)), (1, .int x1), (5, .int x5)]) hx hb dX3_missed_85 rfl hl (by decide) rfl (fun ls hl => ?_)
          refine lv_iinc (v := (x5 + 1)) (lv' := [(5, .int (x5 + 1)), (3, .int x5), (4, .int r78), (0, .ref (a 0)), (1, .int x1)]) hx hb dX3_missed_86 hl (k := 4) rfl (by first | rfl | decide) (by decide) rfl (fun ls hl => ?_)
          refine lv_goto (tgt := 28) hx hb dX3_missed_89 (by decide) ?_
          exact ih _ _ _ _ _ _ h  _ _ _ hP hD hS (lv_sub hl [3, 4, 1, 2, 0] rfl)
  unfold M_X3_missed at h
  refine lv_iload_n hx hb dX3_missed_0 rfl (lv_at hl 1 rfl) ?_
  refine lv_iconst (v := 0) hx hb dX3_missed_1 (by decide) ?_
  refine lv_bipush (v := 99) hx hb dX3_missed_2 (by decide) ?_
  obtain ⟨r4, q4, h⟩ := bnd1_inv h
  refine kSI (n := 3) (As := [.int p1, .int (0 : Int32), .int (99 : Int32)]) (rest := []) CF hl hK hP hD hS hA (c_X3_outside l D cI   p1 (0 : Int32) (99 : Int32) r4 q4) gX3_missed_X3_outside rfl dX3_missed_4 (by decide +kernel) ⟨⟨rfl, rfl⟩, ⟨Nat.le_of_ble_eq_true rfl, Nat.le_of_ble_eq_true rfl⟩, Nat.zero_le _, Nat.zero_le _⟩ (JN.ro [] rfl rfl) rfl rfl (Nat.le_of_ble_eq_true rfl) (fun H locs hP hD hS => ?_)
  refine lv_istore_n (lv' := [(2, .int r4), (0, .ref (a 0)), (1, .int p1)]) hx hb dX3_missed_7 rfl hl (by decide) rfl (fun ls hl => ?_)
  refine lv_iload_n hx hb dX3_missed_8 rfl (lv_at hl 0 rfl) ?_
  refine lv_if_eq (tgt := 18) hx hb dX3_missed_9 (by decide) (fun c9 => ?_) (fun c9 => ?_)
  · replace h := fx_ite_t c9 h
    refine lv_bipush (v := (-9)) hx hb dX3_missed_18 (by decide) ?_
    refine lv_istore_n (lv' := [(3, .int (-9 : Int32)), (2, .int r4), (0, .ref (a 0)), (1, .int p1)]) hx hb dX3_missed_20 rfl hl (by decide) rfl (fun ls hl => ?_)
    refine lv_bipush (v := 10) hx hb dX3_missed_21 (by decide) ?_
    refine lv_istore (lv' := [(4, .int (10 : Int32)), (3, .int (-9 : Int32)), (2, .int r4), (0, .ref (a 0)), (1, .int p1)]) hx hb dX3_missed_23 hl (by decide) rfl (fun ls hl => ?_)
    refine lv_iconst (v := 0) hx hb dX3_missed_25 (by decide) ?_
    refine lv_istore (lv' := [(5, .int (0 : Int32)), (4, .int (10 : Int32)), (3, .int (-9 : Int32)), (2, .int r4), (0, .ref (a 0)), (1, .int p1)]) hx hb dX3_missed_26 hl (by decide) rfl (fun ls hl => ?_)
    exact L28 FU _ _ _ _ _ _ h  _ _ _ hP hD hS (lv_sub hl [4, 5, 2, 1, 0] rfl)
  · replace h := fx_ite_f c9 h
    refine lv_aload_n hx hb dX3_missed_12 rfl (lv_at hl 1 rfl) ?_
    refine lv_iload_n hx hb dX3_missed_13 rfl (lv_at hl 0 rfl) ?_
    obtain ⟨r14, u14_rf, q14, h⟩ := bnd2_inv h
    refine kVI (n := 1) (As := [.int r4]) (rest := []) CF hl hK hP hD hS hA (c_X3_refuse l D cI a no mi ke hk sg lz rn rs rf be fh oh r4 r14 u14_rf q14) gX3_missed_X3_refuse rfl dX3_missed_14 (by decide +kernel) ⟨⟨rfl, rfl⟩, ⟨Nat.le_of_ble_eq_true rfl, Nat.le_of_ble_eq_true rfl⟩, Nat.zero_le _, Nat.zero_le _⟩ (JN.whole (w1 := (cX a cI no mi ke hk sg lz rn rs u14_rf be fh oh)) rfl) 0 rfl ⟨rfl, rfl⟩ rfl rfl (Nat.le_of_ble_eq_true rfl) (fun H locs hP hD hS => ?_)
    replace hP : va_P D vwCl (cX a cI no mi ke hk sg lz rn rs u14_rf be fh oh) H := hP
    replace hD : va_D A (cX a cI no mi ke hk sg lz rn rs u14_rf be fh oh) := hD
    obtain ⟨rfl, rfl, rfl⟩ := ret3 h
    exact rI hQ hx hb hr hlocks hAe hP hS rfl rfl dX3_missed_17
