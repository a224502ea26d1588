/-! X3_again -/
set_option maxHeartbeats 4000000 in
set_option maxRecDepth 100000 in
theorem c_X3_again (l : Launch) (D : va_G) (cI : ClassId) (a : Nat → Nat) (no : SV) (mi : SV) (ke : SV) (hk : Int32) (sg : (Nat → Int32)) (lz : Int32) (rn : (Nat → Int32)) (rs : Int32) (rf : (Nat → Int32)) (be : (Nat → Int32)) (fh : (Nat → Int32)) (oh : (Nat → Int32)) (p1 : Int32) (p2 : Int32) (res : Int32) (u_mi : SV) (u_rf : (Nat → Int32)) (h : M_X3_again no mi rf p1 p2 = some (res, u_mi, u_rf)) : mI l yX3_again wsX3_again { frames := 6, cells := 0, slots := 0, locals := 138 } D cI [.ref (a 0), .int p1, .int p2] (cX a cI no mi ke hk sg lz rn rs rf be fh oh) (cX a cI no u_mi ke hk sg lz rn rs u_rf be fh oh) res := by
  intro sz
  refine mStart (cc := cX3_again) (maxL := 3) (ret := (some .int)) (own := RX3) (by decide) rfl rfl (Nat.le_of_ble_eq_true rfl) (lv := [(0, .ref (a 0)), (1, .int p1), (2, .int p2)]) rfl ?_
  intro p e s m args below meth c A ls Q H locs CF hr hlocks hK hP hD hS hA hAe hl hQ
  obtain ⟨hx, hb, hml, hown, hts⟩ := id CF
  have f10 := hts (.fieldLink RX3 10 "MendAnothersBreaking" "now" "LMendAnothersBreaking$State;") (List.mem_of_getElem? (i := 1) rfl)
  have f16 := hts (.fieldLink RX3 16 "MendAnothersBreaking" "mind" "LMendAnothersBreaking$State;") (List.mem_of_getElem? (i := 2) rfl)
  have i3 : ∀ w ∈ wsX30, w ∈ wsX3_again := fun w h => List.mem_cons_of_mem _ (List.mem_append_left _ (List.mem_append_right _ h))
  unfold M_X3_again at h
  refine lv_aload_n hx hb dX3_again_0 rfl (lv_at hl 0 rfl) ?_
  refine va_get (D := D) (ci := 3) (v := .ref (a 1)) (C := RX3) (T := TX3) (N := 11) hx hb hts i3 hown hK hP 0 rfl rfl 0 (by decide) f10 (fun _ h9 => h9) rfl dX3_again_1 ?_
  refine lv_iload_n hx hb dX3_again_4 rfl (lv_at hl 1 rfl) ?_
  obtain ⟨r5, q5, h⟩ := bnd1_inv h
  refine kVI (n := 1) (As := [.int p1]) (rest := []) CF hl hK hP hD hS hA (c_X2_isThing l D cI (a 1) (a 2) (a 3) (a 4) (a 5) (a 6) (a 7) (a 8) no p1 r5 q5) gX3_again_X2_isThing rfl dX3_again_5 (by decide +kernel) ⟨⟨rfl, rfl⟩, ⟨Nat.le_of_ble_eq_true rfl, Nat.le_of_ble_eq_true rfl⟩, Nat.zero_le _, Nat.zero_le _⟩ (JN.ro [1, 2, 3, 4, 5, 6, 7, 8] rfl rfl) 1 rfl ⟨rfl, rfl⟩ rfl rfl (Nat.le_of_ble_eq_true rfl) (fun H locs hP hD hS => ?_)
  refine lv_if_ne (tgt := 17) hx hb dX3_again_8 (by decide) (fun c8 => ?_) (fun c8 => ?_)
  · replace h := fx_ite_f c8 h
    refine lv_iload_n hx hb dX3_again_17 rfl (lv_at hl 2 rfl) ?_
    refine lv_if_lt (tgt := 26) hx hb dX3_again_18 (by decide) (fun c18 => ?_) (fun c18 => ?_)
    · replace h := fx_ite_t c18 h
      refine lv_aload_n hx hb dX3_again_26 rfl (lv_at hl 0 rfl) ?_
      refine lv_bipush (v := (-2)) hx hb dX3_again_27 (by decide) ?_
      obtain ⟨r29, u29_rf, q29, h⟩ := bnd2_inv h
      refine kVI (n := 1) (As := [.int (-2 : Int32)]) (rest := []) CF hl hK hP hD hS hA (c_X3_refuse l D cI a no mi ke hk sg lz rn rs rf be fh oh (-2 : Int32) r29 u29_rf q29) gX3_again_X3_refuse rfl dX3_again_29 (by decide +kernel) ⟨⟨rfl, rfl⟩, ⟨Nat.le_of_ble_eq_true rfl, Nat.le_of_ble_eq_true rfl⟩, Nat.zero_le _, Nat.zero_le _⟩ (JN.whole (w1 := (cX a cI no mi ke hk sg lz rn rs u29_rf be fh oh)) rfl) 0 rfl ⟨rfl, rfl⟩ rfl rfl (Nat.le_of_ble_eq_true rfl) (fun H locs hP hD hS => ?_)
      replace hP : va_P D vwCl (cX a cI no mi ke hk sg lz rn rs u29_rf be fh oh) H := hP
      replace hD : va_D A (cX a cI no mi ke hk sg lz rn rs u29_rf be fh oh) := hD
      obtain ⟨rfl, rfl, rfl⟩ := ret3 h
      exact rI hQ hx hb hr hlocks hAe hP hS rfl rfl dX3_again_32
    · replace h := fx_ite_f c18 h
      refine lv_iload_n hx hb dX3_again_21 rfl (lv_at hl 2 rfl) ?_
      refine lv_iconst (v := 1) hx hb dX3_again_22 (by decide) ?_
      refine lv_icmp_le (tgt := 33) hx hb dX3_again_23 (by decide) (fun c23 => ?_) (fun c23 => ?_)
      · replace h := fx_ite_t c23 h
        refine lv_aload_n hx hb dX3_again_33 rfl (lv_at hl 0 rfl) ?_
        refine va_get (D := D) (ci := 3) (v := .ref (a 9)) (C := RX3) (T := TX3) (N := 11) hx hb hts i3 hown hK hP 0 rfl rfl 1 (by decide) f16 (fun _ h9 => h9) rfl dX3_again_34 ?_
        refine lv_aload_n hx hb dX3_again_37 rfl (lv_at hl 0 rfl) ?_
        refine va_get (D := D) (ci := 3) (v := .ref (a 1)) (C := RX3) (T := TX3) (N := 11) hx hb hts i3 hown hK hP 0 rfl rfl 0 (by decide) f10 (fun _ h9 => h9) rfl dX3_again_38 ?_
        obtain ⟨u41_mi, q41, h⟩ := bnd1_inv h
        refine kVV (n := 1) (As := [.ref (a 1)]) (rest := []) CF hl hK hP hD hS hA (c_X2_become l D cI (a 9) (a 10) (a 11) (a 12) (a 13) (a 14) (a 15) (a 16) (a 1) (a 2) (a 3) (a 4) (a 5) (a 6) (a 7) (a 8) mi no  u41_mi q41) gX3_again_X2_become rfl dX3_again_41 (by decide +kernel) ⟨⟨rfl, rfl⟩, ⟨Nat.le_of_ble_eq_true rfl, Nat.le_of_ble_eq_true rfl⟩, Nat.zero_le _, Nat.zero_le _⟩ (JN.sub (wst' := (cX a cI no u41_mi ke hk sg lz rn rs rf be fh oh)) [9, 10, 11, 12, 13, 14, 15, 16, 1, 2, 3, 4, 5, 6, 7, 8] rfl rfl rfl rfl) 9 rfl ⟨rfl, rfl⟩ rfl rfl (Nat.le_of_ble_eq_true rfl) (fun H locs hP hD hS => ?_)
        replace hP : va_P D vwCl (cX a cI no u41_mi ke hk sg lz rn rs rf be fh oh) H := hP
        replace hD : va_D A (cX a cI no u41_mi ke hk sg lz rn rs rf be fh oh) := hD
        refine lv_aload_n hx hb dX3_again_44 rfl (lv_at hl 0 rfl) ?_
        refine lv_iload_n hx hb dX3_again_45 rfl (lv_at hl 1 rfl) ?_
        refine lv_iload_n hx hb dX3_again_46 rfl (lv_at hl 2 rfl) ?_
        refine lv_if_ne (tgt := 54) hx hb dX3_again_47 (by decide) (fun c47 => ?_) (fun c47 => ?_)
        · replace h := fx_ite_f c47 h
          refine lv_iconst (v := 0) hx hb dX3_again_54 (by decide) ?_
          obtain ⟨r55, u55_mi, q55, h⟩ := bnd2_inv h
          refine kVI (n := 2) (As := [.int p1, .int (0 : Int32)]) (rest := []) CF hl hK hP hD hS hA (c_X3_daysUntil l D cI a no u41_mi ke hk sg lz rn rs rf be fh oh p1 (0 : Int32) r55 u55_mi q55) gX3_again_X3_daysUntil rfl dX3_again_55 (by decide +kernel) ⟨⟨rfl, rfl⟩, ⟨Nat.le_of_ble_eq_true rfl, Nat.le_of_ble_eq_true rfl⟩, Nat.zero_le _, Nat.zero_le _⟩ (JN.whole (w1 := (cX a cI no u55_mi ke hk sg lz rn rs rf be fh oh)) rfl) 0 rfl ⟨rfl, rfl⟩ rfl rfl (Nat.le_of_ble_eq_true rfl) (fun H locs hP hD hS => ?_)
          replace hP : va_P D vwCl (cX a cI no u55_mi ke hk sg lz rn rs rf be fh oh) H := hP
          replace hD : va_D A (cX a cI no u55_mi ke hk sg lz rn rs rf be fh oh) := hD
          obtain ⟨rfl, rfl, rfl⟩ := ret3 h
          exact rI hQ hx hb hr hlocks hAe hP hS rfl rfl dX3_again_58
        · replace h := fx_ite_t c47 h
          refine lv_iconst (v := 1) hx hb dX3_again_50 (by decide) ?_
          refine lv_goto (tgt := 55) hx hb dX3_again_51 (by decide) ?_
          obtain ⟨r55, u55_mi, q55, h⟩ := bnd2_inv h
          refine kVI (n := 2) (As := [.int p1, .int (1 : Int32)]) (rest := []) CF hl hK hP hD hS hA (c_X3_daysUntil l D cI a no u41_mi ke hk sg lz rn rs rf be fh oh p1 (1 : Int32) r55 u55_mi q55) gX3_again_X3_daysUntil rfl dX3_again_55 (by decide +kernel) ⟨⟨rfl, rfl⟩, ⟨Nat.le_of_ble_eq_true rfl, Nat.le_of_ble_eq_true rfl⟩, Nat.zero_le _, Nat.zero_le _⟩ (JN.whole (w1 := (cX a cI no u55_mi ke hk sg lz rn rs rf be fh oh)) rfl) 0 rfl ⟨rfl, rfl⟩ rfl rfl (Nat.le_of_ble_eq_true rfl) (fun H locs hP hD hS => ?_)
          replace hP : va_P D vwCl (cX a cI no u55_mi ke hk sg lz rn rs rf be fh oh) H := hP
          replace hD : va_D A (cX a cI no u55_mi ke hk sg lz rn rs rf be fh oh) := hD
          obtain ⟨rfl, rfl, rfl⟩ := ret3 h
          exact rI hQ hx hb hr hlocks hAe hP hS rfl rfl dX3_again_58
      · replace h := fx_ite_f c23 h
        refine lv_aload_n hx hb dX3_again_26 rfl (lv_at hl 0 rfl) ?_
        refine lv_bipush (v := (-2)) hx hb dX3_again_27 (by decide) ?_
        obtain ⟨r29, u29_rf, q29, h⟩ := bnd2_inv h
        refine kVI (n := 1) (As := [.int (-2 : Int32)]) (rest := []) CF hl hK hP hD hS hA (c_X3_refuse l D cI a no mi ke hk sg lz rn rs rf be fh oh (-2 : Int32) r29 u29_rf q29) gX3_again_X3_refuse rfl dX3_again_29 (by decide +kernel) ⟨⟨rfl, rfl⟩, ⟨Nat.le_of_ble_eq_true rfl, Nat.le_of_ble_eq_true rfl⟩, Nat.zero_le _, Nat.zero_le _⟩ (JN.whole (w1 := (cX a cI no mi ke hk sg lz rn rs u29_rf be fh oh)) rfl) 0 rfl ⟨rfl, rfl⟩ rfl rfl (Nat.le_of_ble_eq_true rfl) (fun H locs hP hD hS => ?_)
        replace hP : va_P D vwCl (cX a cI no mi ke hk sg lz rn rs u29_rf be fh oh) H := hP
        replace hD : va_D A (cX a cI no mi ke hk sg lz rn rs u29_rf be fh oh) := hD
        obtain ⟨rfl, rfl, rfl⟩ := ret3 h
        exact rI hQ hx hb hr hlocks hAe hP hS rfl rfl dX3_again_32
  · replace h := fx_ite_t c8 h
    refine lv_aload_n hx hb dX3_again_11 rfl (lv_at hl 0 rfl) ?_
    refine lv_iconst (v := (-1)) hx hb dX3_again_12 (by decide) ?_
    obtain ⟨r13, u13_rf, q13, h⟩ := bnd2_inv h
    refine kVI (n := 1) (As := [.int (-1 : Int32)]) (rest := []) CF hl hK hP hD hS hA (c_X3_refuse l D cI a no mi ke hk sg lz rn rs rf be fh oh (-1 : Int32) r13 u13_rf q13) gX3_again_X3_refuse rfl dX3_again_13 (by decide +kernel) ⟨⟨rfl, rfl⟩, ⟨Nat.le_of_ble_eq_true rfl, Nat.le_of_ble_eq_true rfl⟩, Nat.zero_le _, Nat.zero_le _⟩ (JN.whole (w1 := (cX a cI no mi ke hk sg lz rn rs u13_rf be fh oh)) rfl) 0 rfl ⟨rfl, rfl⟩ rfl rfl (Nat.le_of_ble_eq_true rfl) (fun H locs hP hD hS => ?_)
    replace hP : va_P D vwCl (cX a cI no mi ke hk sg lz rn rs u13_rf be fh oh) H := hP
    replace hD : va_D A (cX a cI no mi ke hk sg lz rn rs u13_rf be fh oh) := hD
    obtain ⟨rfl, rfl, rfl⟩ := ret3 h
    exact rI hQ hx hb hr hlocks hAe hP hS rfl rfl dX3_again_16
/-! X3_daysUntilAllWhole -/
set_option maxHeartbeats 4000000 in
set_option maxRecDepth 100000 in
theorem c_X3_daysUntilAllWhole (l : Launch) (D : va_G) (cI : ClassId) (a : Nat → Nat) (no : SV) (mi : SV) (ke : SV) (hk : Int32) (sg : (Nat → Int32)) (lz : Int32) (rn : (Nat → Int32)) (rs : Int32) (rf : (Nat → Int32)) (be : (Nat → Int32)) (fh : (Nat → Int32)) (oh : (Nat → Int32))  (res : Int32) (u_mi : SV) (h : M_X3_daysUntilAllWhole no mi = some (res, u_mi)) : mI l yX3_daysUntilAllWhole wsX3_daysUntilAllWhole { frames := 5, cells := 0, slots := 0, locals := 115 } D cI [.ref (a 0)] (cX a cI no mi ke hk sg lz rn rs rf be fh oh) (cX a cI no u_mi ke hk sg lz rn rs rf be fh oh) res := by
  intro sz
  refine mStart (cc := cX3_daysUntilAllWhole) (maxL := 2) (ret := (some .int)) (own := RX3) (by decide) rfl rfl (Nat.le_of_ble_eq_true rfl) (lv := [(0, .ref (a 0))]) rfl ?_
  intro p e s m args below meth c A ls Q H locs CF hr hlocks hK hP hD hS hA hAe hl hQ
  obtain ⟨hx, hb, hml, hown, hts⟩ := id CF
  have f10 := hts (.fieldLink RX3 10 "MendAnothersBreaking" "now" "LMendAnothersBreaking$State;") (List.mem_of_getElem? (i := 2) rfl)
  have f16 := hts (.fieldLink RX3 16 "MendAnothersBreaking" "mind" "LMendAnothersBreaking$State;") (List.mem_of_getElem? (i := 1) rfl)
  have f171 := hts (.fieldLink RX3 171 "MendAnothersBreaking$State" "things" "I") (List.mem_of_getElem? (i := 3) rfl)
  have i2 : ∀ w ∈ wsX20, w ∈ wsX3_daysUntilAllWhole := fun w h => List.mem_cons_of_mem _ (List.mem_append_right _ h)
  have i3 : ∀ w ∈ wsX30, w ∈ wsX3_daysUntilAllWhole := fun w h => List.mem_cons_of_mem _ (List.mem_append_left _ (List.mem_append_right _ h))
  have L13 : ∀ (n : Nat)  (x1 : Int32) (mi : SV), fuel (fun _ _ => none) (B_X3_daysUntilAllWhole_13 no) n x1 mi = some (res, u_mi) → 
      ∀ (H : Heap) (locs : List Loc) (ls : Array Slot), va_P D vwCl (cX a cI no mi ke hk sg lz rn rs rf be fh oh) H → va_D A (cX a cI no mi ke hk sg lz rn rs rf be fh oh) → va_S A s.heap H locs → lv_has ls 2 [(0, .ref (a 0)), (1, .int x1)] → W p l e { frames := 5, cells := 0, slots := 0, locals := 115 } s m args below meth c H locs 0 0 Q (F0 m 13 ls []) := by
    intro n
    induction n with
    | zero =>
      intro x1 mi h
      exact nomatch (show (none : Option (Int32 × SV)) = some (res, u_mi) from h)
    | succ n ih =>
      intro x1 mi h  H locs ls hP hD hS hl
      replace h : B_X3_daysUntilAllWhole_13 no (fuel (fun _ _ => none) (B_X3_daysUntilAllWhole_13 no) n) x1 mi = some (res, u_mi) := h
      unfold B_X3_daysUntilAllWhole_13 at h
      refine lv_iload_n hx hb dX3_daysUntilAllWhole_13 rfl (lv_at hl 1 rfl) ?_
      refine lv_bipush (v := 99) hx hb dX3_daysUntilAllWhole_14 (by decide) ?_
      refine lv_icmp_gt (tgt := 55) hx hb dX3_daysUntilAllWhole_16 (by decide) (fun c16 => ?_) (fun c16 => ?_)
      · replace h := fx_ite_t c16 h
        refine lv_bipush (v := (-9)) hx hb dX3_daysUntilAllWhole_55 (by decide) ?_
        obtain ⟨rfl, rfl⟩ := ret2 h
        exact rI hQ hx hb hr hlocks hAe hP hS rfl rfl dX3_daysUntilAllWhole_57
      · replace h := fx_ite_f c16 h
        refine lv_aload_n hx hb dX3_daysUntilAllWhole_19 rfl (lv_at hl 0 rfl) ?_
        refine va_get (D := D) (ci := 3) (v := .ref (a 9)) (C := RX3) (T := TX3) (N := 11) hx hb hts i3 hown hK hP 0 rfl rfl 1 (by decide) f16 (fun _ h9 => h9) rfl dX3_daysUntilAllWhole_20 ?_
        obtain ⟨r23, q23, h⟩ := bnd1_inv h
        refine kVI (n := 0) (As := []) (rest := []) CF hl hK hP hD hS hA (c_X2_wholeCount l D cI (a 9) (a 10) (a 11) (a 12) (a 13) (a 14) (a 15) (a 16) mi  r23 q23) gX3_daysUntilAllWhole_X2_wholeCount rfl dX3_daysUntilAllWhole_23 (by decide +kernel) ⟨⟨rfl, rfl⟩, ⟨Nat.le_of_ble_eq_true rfl, Nat.le_of_ble_eq_true rfl⟩, Nat.zero_le _, Nat.zero_le _⟩ (JN.ro [9, 10, 11, 12, 13, 14, 15, 16] rfl rfl) 9 rfl ⟨rfl, rfl⟩ rfl rfl (Nat.le_of_ble_eq_true rfl) (fun H locs hP hD hS => ?_)
        refine lv_aload_n hx hb dX3_daysUntilAllWhole_26 rfl (lv_at hl 0 rfl) ?_
        refine va_get (D := D) (ci := 3) (v := .ref (a 9)) (C := RX3) (T := TX3) (N := 11) hx hb hts i3 hown hK hP 0 rfl rfl 1 (by decide) f16 (fun _ h9 => h9) rfl dX3_daysUntilAllWhole_27 ?_
        refine va_get (D := D) (ci := 2) (v := .int (sTh mi)) (C := RX2) (T := TX2) (N := 10) hx hb hts i2 hown hK hP 9 rfl rfl 8 (by decide) f171 (fun _ h9 => h9) rfl dX3_daysUntilAllWhole_30 ?_
        refine lv_icmp_ne (tgt := 38) hx hb dX3_daysUntilAllWhole_33 (by decide) (fun c33 => ?_) (fun c33 => ?_)
        · replace h := fx_ite_f c33 h
          refine lv_aload_n hx hb dX3_daysUntilAllWhole_38 rfl (lv_at hl 0 rfl) ?_
          refine va_get (D := D) (ci := 3) (v := .ref (a 9)) (C := RX3) (T := TX3) (N := 11) hx hb hts i3 hown hK hP 0 rfl rfl 1 (by decide) f16 (fun _ h9 => h9) rfl dX3_daysUntilAllWhole_39 ?_
          refine lv_iconst (v := 1) hx hb dX3_daysUntilAllWhole_42 (by decide) ?_
          refine lv_iconst (v := 1) hx hb dX3_daysUntilAllWhole_43 (by decide) ?_
          refine lv_bipush (v := (-9)) hx hb dX3_daysUntilAllWhole_44 (by decide) ?_
          obtain ⟨u46_mi, q46, h⟩ := bnd1_inv h
          refine kVV (n := 3) (As := [.int (1 : Int32), .int (1 : Int32), .int (-9 : Int32)]) (rest := []) CF hl hK hP hD hS hA (c_X2_pass l D cI (a 9) (a 10) (a 11) (a 12) (a 13) (a 14) (a 15) (a 16) mi (1 : Int32) (1 : Int32) (-9 : Int32) u46_mi q46) gX3_daysUntilAllWhole_X2_pass rfl dX3_daysUntilAllWhole_46 (by decide +kernel) ⟨⟨rfl, rfl⟩, ⟨Nat.le_of_ble_eq_true rfl, Nat.le_of_ble_eq_true rfl⟩, Nat.zero_le _, Nat.zero_le _⟩ (JN.sub (wst' := (cX a cI no u46_mi ke hk sg lz rn rs rf be fh oh)) [9, 10, 11, 12, 13, 14, 15, 16] rfl rfl rfl rfl) 9 rfl ⟨rfl, rfl⟩ rfl rfl (Nat.le_of_ble_eq_true rfl) (fun H locs hP hD hS => ?_)
          replace hP : va_P D vwCl (cX a cI no u46_mi ke hk sg lz rn rs rf be fh oh) H := hP
          replace hD : va_D A (cX a cI no u46_mi ke hk sg lz rn rs rf be fh oh) := hD
          refine lv_iinc (v := (x1 + 1)) (lv' := [(1, .int (x1 + 1)), (0, .ref (a 0))]) hx hb dX3_daysUntilAllWhole_49 hl (k := 1) rfl (by first | rfl | decide) (by decide) rfl (fun ls hl => ?_)
          refine lv_goto (tgt := 13) hx hb dX3_daysUntilAllWhole_52 (by decide) ?_
          exact ih _ _ h  _ _ _ hP hD hS (lv_sub hl [1, 0] rfl)
        · replace h := fx_ite_t c33 h
          refine lv_iload_n hx hb dX3_daysUntilAllWhole_36 rfl (lv_at hl 1 rfl) ?_
          obtain ⟨rfl, rfl⟩ := ret2 h
          exact rI hQ hx hb hr hlocks hAe hP hS rfl rfl dX3_daysUntilAllWhole_37
  unfold M_X3_daysUntilAllWhole at h
  refine lv_aload_n hx hb dX3_daysUntilAllWhole_0 rfl (lv_at hl 0 rfl) ?_
  refine va_get (D := D) (ci := 3) (v := .ref (a 9)) (C := RX3) (T := TX3) (N := 11) hx hb hts i3 hown hK hP 0 rfl rfl 1 (by decide) f16 (fun _ h9 => h9) rfl dX3_daysUntilAllWhole_1 ?_
  refine lv_aload_n hx hb dX3_daysUntilAllWhole_4 rfl (lv_at hl 0 rfl) ?_
  refine va_get (D := D) (ci := 3) (v := .ref (a 1)) (C := RX3) (T := TX3) (N := 11) hx hb hts i3 hown hK hP 0 rfl rfl 0 (by decide) f10 (fun _ h9 => h9) rfl dX3_daysUntilAllWhole_5 ?_
  obtain ⟨u8_mi, q8, h⟩ := bnd1_inv h
  refine kVV (n := 1) (As := [.ref (a 1)]) (rest := []) CF hl hK hP hD hS hA (c_X2_become l D cI (a 9) (a 10) (a 11) (a 12) (a 13) (a 14) (a 15) (a 16) (a 1) (a 2) (a 3) (a 4) (a 5) (a 6) (a 7) (a 8) mi no  u8_mi q8) gX3_daysUntilAllWhole_X2_become rfl dX3_daysUntilAllWhole_8 (by decide +kernel) ⟨⟨rfl, rfl⟩, ⟨Nat.le_of_ble_eq_true rfl, Nat.le_of_ble_eq_true rfl⟩, Nat.zero_le _, Nat.zero_le _⟩ (JN.sub (wst' := (cX a cI no u8_mi ke hk sg lz rn rs rf be fh oh)) [9, 10, 11, 12, 13, 14, 15, 16, 1, 2, 3, 4, 5, 6, 7, 8] rfl rfl rfl rfl) 9 rfl ⟨rfl, rfl⟩ rfl rfl (Nat.le_of_ble_eq_true rfl) (fun H locs hP hD hS => ?_)
  replace hP : va_P D vwCl (cX a cI no u8_mi ke hk sg lz rn rs rf be fh oh) H := hP
  replace hD : va_D A (cX a cI no u8_mi ke hk sg lz rn rs rf be fh oh) := hD
  refine lv_iconst (v := 0) hx hb dX3_daysUntilAllWhole_11 (by decide) ?_
  refine lv_istore_n (lv' := [(1, .int (0 : Int32)), (0, .ref (a 0))]) hx hb dX3_daysUntilAllWhole_12 rfl hl (by decide) rfl (fun ls hl => ?_)
  exact L13 FU _ _ h  _ _ _ hP hD hS (lv_sub hl [1, 0] rfl)
/-! X3_mourned -/
set_option maxHeartbeats 4000000 in
set_option maxRecDepth 100000 in
theorem c_X3_mourned (l : Launch) (D : va_G) (cI : ClassId) (a : Nat → Nat) (no : SV) (mi : SV) (ke : SV) (hk : Int32) (sg : (Nat → Int32)) (lz : Int32) (rn : (Nat → Int32)) (rs : Int32) (rf : (Nat → Int32)) (be : (Nat → Int32)) (fh : (Nat → Int32)) (oh : (Nat → Int32)) (p1 : Int32) (res : Int32) (u_mi : SV) (u_rf : (Nat → Int32)) (h : M_X3_mourned no mi rf p1 = some (res, u_mi, u_rf)) : mI l yX3_mourned wsX3_mourned { frames := 6, cells := 0, slots := 0, locals := 136 } D cI [.ref (a 0), .int p1] (cX a cI no mi ke hk sg lz rn rs rf be fh oh) (cX a cI no u_mi ke hk sg lz rn rs u_rf be fh oh) res := by
  intro sz
  refine mStart (cc := cX3_mourned) (maxL := 2) (ret := (some .int)) (own := RX3) (by decide) rfl rfl (Nat.le_of_ble_eq_true rfl) (lv := [(0, .ref (a 0)), (1, .int p1)]) rfl ?_
  intro p e s m args below meth c A ls Q H locs CF hr hlocks hK hP hD hS hA hAe hl hQ
  obtain ⟨hx, hb, hml, hown, hts⟩ := id CF
  have f10 := hts (.fieldLink RX3 10 "MendAnothersBreaking" "now" "LMendAnothersBreaking$State;") (List.mem_of_getElem? (i := 1) rfl)
  have i3 : ∀ w ∈ wsX30, w ∈ wsX3_mourned := fun w h => List.mem_cons_of_mem _ (List.mem_append_left _ (List.mem_append_right _ h))
  unfold M_X3_mourned at h
  refine lv_iload_n hx hb dX3_mourned_0 rfl (lv_at hl 1 rfl) ?_
  refine lv_if_lt (tgt := 9) hx hb dX3_mourned_1 (by decide) (fun c1 => ?_) (fun c1 => ?_)
  · replace h := fx_ite_t c1 h
    refine lv_aload_n hx hb dX3_mourned_9 rfl (lv_at hl 0 rfl) ?_
    refine lv_bipush (v := (-2)) hx hb dX3_mourned_10 (by decide) ?_
    obtain ⟨r12, u12_rf, q12, h⟩ := bnd2_inv h
    refine kVI (n := 1) (As := [.int (-2 : Int32)]) (rest := []) CF hl hK hP hD hS hA (c_X3_refuse l D cI a no mi ke hk sg lz rn rs rf be fh oh (-2 : Int32) r12 u12_rf q12) gX3_mourned_X3_refuse rfl dX3_mourned_12 (by decide +kernel) ⟨⟨rfl, rfl⟩, ⟨Nat.le_of_ble_eq_true rfl, Nat.le_of_ble_eq_true rfl⟩, Nat.zero_le _, Nat.zero_le _⟩ (JN.whole (w1 := (cX a cI no mi ke hk sg lz rn rs u12_rf be fh oh)) rfl) 0 rfl ⟨rfl, rfl⟩ rfl rfl (Nat.le_of_ble_eq_true rfl) (fun H locs hP hD hS => ?_)
    replace hP : va_P D vwCl (cX a cI no mi ke hk sg lz rn rs u12_rf be fh oh) H := hP
    replace hD : va_D A (cX a cI no mi ke hk sg lz rn rs u12_rf be fh oh) := hD
    obtain ⟨rfl, rfl, rfl⟩ := ret3 h
    exact rI hQ hx hb hr hlocks hAe hP hS rfl rfl dX3_mourned_15
  · replace h := fx_ite_f c1 h
    refine lv_iload_n hx hb dX3_mourned_4 rfl (lv_at hl 1 rfl) ?_
    refine lv_iconst (v := 1) hx hb dX3_mourned_5 (by decide) ?_
    refine lv_icmp_le (tgt := 16) hx hb dX3_mourned_6 (by decide) (fun c6 => ?_) (fun c6 => ?_)
    · replace h := fx_ite_t c6 h
      refine lv_iload_n hx hb dX3_mourned_16 rfl (lv_at hl 1 rfl) ?_
      refine lv_if_ne (tgt := 30) hx hb dX3_mourned_17 (by decide) (fun c17 => ?_) (fun c17 => ?_)
      · replace h := fx_ite_f c17 h
        refine lv_aload_n hx hb dX3_mourned_30 rfl (lv_at hl 0 rfl) ?_
        obtain ⟨r31, u31_mi, q31, h⟩ := bnd2_inv h
        refine kVI (n := 0) (As := []) (rest := []) CF hl hK hP hD hS hA (c_X3_daysUntilAllWhole l D cI a no mi ke hk sg lz rn rs rf be fh oh  r31 u31_mi q31) gX3_mourned_X3_daysUntilAllWhole rfl dX3_mourned_31 (by decide +kernel) ⟨⟨rfl, rfl⟩, ⟨Nat.le_of_ble_eq_true rfl, Nat.le_of_ble_eq_true rfl⟩, Nat.zero_le _, Nat.zero_le _⟩ (JN.whole (w1 := (cX a cI no u31_mi ke hk sg lz rn rs rf be fh oh)) rfl) 0 rfl ⟨rfl, rfl⟩ rfl rfl (Nat.le_of_ble_eq_true rfl) (fun H locs hP hD hS => ?_)
        replace hP : va_P D vwCl (cX a cI no u31_mi ke hk sg lz rn rs rf be fh oh) H := hP
        replace hD : va_D A (cX a cI no u31_mi ke hk sg lz rn rs rf be fh oh) := hD
        obtain ⟨rfl, rfl, rfl⟩ := ret3 h
        exact rI hQ hx hb hr hlocks hAe hP hS rfl rfl dX3_mourned_34
      · replace h := fx_ite_t c17 h
        refine lv_aload_n hx hb dX3_mourned_20 rfl (lv_at hl 0 rfl) ?_
        refine va_get (D := D) (ci := 3) (v := .ref (a 1)) (C := RX3) (T := TX3) (N := 11) hx hb hts i3 hown hK hP 0 rfl rfl 0 (by decide) f10 (fun _ h9 => h9) rfl dX3_mourned_21 ?_
        obtain ⟨r24, q24, h⟩ := bnd1_inv h
        refine kVI (n := 0) (As := []) (rest := []) CF hl hK hP hD hS hA (c_X2_mournedBits l D cI (a 1) (a 2) (a 3) (a 4) (a 5) (a 6) (a 7) (a 8) no  r24 q24) gX3_mourned_X2_mournedBits rfl dX3_mourned_24 (by decide +kernel) ⟨⟨rfl, rfl⟩, ⟨Nat.le_of_ble_eq_true rfl, Nat.le_of_ble_eq_true rfl⟩, Nat.zero_le _, Nat.zero_le _⟩ (JN.ro [1, 2, 3, 4, 5, 6, 7, 8] rfl rfl) 1 rfl ⟨rfl, rfl⟩ rfl rfl (Nat.le_of_ble_eq_true rfl) (fun H locs hP hD hS => ?_)
        refine lv_goto (tgt := 34) hx hb dX3_mourned_27 (by decide) ?_
        obtain ⟨rfl, rfl, rfl⟩ := ret3 h
        exact rI hQ hx hb hr hlocks hAe hP hS rfl rfl dX3_mourned_34
    · replace h := fx_ite_f c6 h
      refine lv_aload_n hx hb dX3_mourned_9 rfl (lv_at hl 0 rfl) ?_
      refine lv_bipush (v := (-2)) hx hb dX3_mourned_10 (by decide) ?_
      obtain ⟨r12, u12_rf, q12, h⟩ := bnd2_inv h
      refine kVI (n := 1) (As := [.int (-2 : Int32)]) (rest := []) CF hl hK hP hD hS hA (c_X3_refuse l D cI a no mi ke hk sg lz rn rs rf be fh oh (-2 : Int32) r12 u12_rf q12) gX3_mourned_X3_refuse rfl dX3_mourned_12 (by decide +kernel) ⟨⟨rfl, rfl⟩, ⟨Nat.le_of_ble_eq_true rfl, Nat.le_of_ble_eq_true rfl⟩, Nat.zero_le _, Nat.zero_le _⟩ (JN.whole (w1 := (cX a cI no mi ke hk sg lz rn rs u12_rf be fh oh)) rfl) 0 rfl ⟨rfl, rfl⟩ rfl rfl (Nat.le_of_ble_eq_true rfl) (fun H locs hP hD hS => ?_)
      replace hP : va_P D vwCl (cX a cI no mi ke hk sg lz rn rs u12_rf be fh oh) H := hP
      replace hD : va_D A (cX a cI no mi ke hk sg lz rn rs u12_rf be fh oh) := hD
      obtain ⟨rfl, rfl, rfl⟩ := ret3 h
      exact rI hQ hx hb hr hlocks hAe hP hS rfl rfl dX3_mourned_15
/-! X3_firstLost -/
set_option maxHeartbeats 4000000 in
set_option maxRecDepth 100000 in
theorem c_X3_firstLost (l : Launch) (D : va_G) (cI : ClassId) (a : Nat → Nat) (no : SV) (mi : SV) (ke : SV) (hk : Int32) (sg : (Nat → Int32)) (lz : Int32) (rn : (Nat → Int32)) (rs : Int32) (rf : (Nat → Int32)) (be : (Nat → Int32)) (fh : (Nat → Int32)) (oh : (Nat → Int32))  (res : Int32) (h : M_X3_firstLost no mi = some res) : mI l yX3_firstLost wsX3_firstLost { frames := 1, cells := 0, slots := 0, locals := 21 } D cI [.ref (a 0)] (cX a cI no mi ke hk sg lz rn rs rf be fh oh) (cX a cI no mi ke hk sg lz rn rs rf be fh oh) res := by
  intro sz
  refine mStart (cc := cX3_firstLost) (maxL := 2) (ret := (some .int)) (own := RX3) (by decide) rfl rfl (Nat.le_of_ble_eq_true rfl) (lv := [(0, .ref (a 0))]) rfl ?_
  intro p e s m args below meth c A ls Q H locs CF hr hlocks hK hP hD hS hA hAe hl hQ
  obtain ⟨hx, hb, hml, hown, hts⟩ := id CF
  have f10 := hts (.fieldLink RX3 10 "MendAnothersBreaking" "now" "LMendAnothersBreaking$State;") (List.mem_of_getElem? (i := 1) rfl)
  have f16 := hts (.fieldLink RX3 16 "MendAnothersBreaking" "mind" "LMendAnothersBreaking$State;") (List.mem_of_getElem? (i := 3) rfl)
  have f171 := hts (.fieldLink RX3 171 "MendAnothersBreaking$State" "things" "I") (List.mem_of_getElem? (i := 2) rfl)
  have i2 : ∀ w ∈ wsX20, w ∈ wsX3_firstLost := fun w h => List.mem_cons_of_mem _ (List.mem_append_right _ h)
  have i3 : ∀ w ∈ wsX30, w ∈ wsX3_firstLost := fun w h => List.mem_cons_of_mem _ (List.mem_append_left _ (List.mem_append_right _ h))
  have L2 : ∀ (n : Nat)  (x1 : Int32), fuel (fun _ => none) (B_X3_firstLost_2 no mi) n x1 = some res → 
      ∀ (H : Heap) (locs : List Loc) (ls : Array Slot), va_P D vwCl (cX a cI no mi ke hk sg lz rn rs rf be fh oh) H → va_D A (cX a cI no mi ke hk sg lz rn rs rf be fh oh) → va_S A s.heap H locs → lv_has ls 2 [(0, .ref (a 0)), (1, .int x1)] → W p l e { frames := 1, cells := 0, slots := 0, locals := 21 } s m args below meth c H locs 0 0 Q (F0 m 2 ls []) := by
    intro n
    induction n with
    | zero =>
      intro x1 h
      exact nomatch (show (none : Option (Int32)) = some res from h)
    | succ n ih =>
      intro x1 h  H locs ls hP hD hS hl
      replace h : B_X3_firstLost_2 no mi (fuel (fun _ => none) (B_X3_firstLost_2 no mi) n) x1 = some res := h
      unfold B_X3_firstLost_2 at h
      refine lv_iload_n hx hb dX3_firstLost_2 rfl (lv_at hl 1 rfl) ?_
      refine lv_aload_n hx hb dX3_firstLost_3 rfl (lv_at hl 0 rfl) ?_
      refine va_get (D := D) (ci := 3) (v := .ref (a 1)) (C := RX3) (T := TX3) (N := 11) hx hb hts i3 hown hK hP 0 rfl rfl 0 (by decide) f10 (fun _ h9 => h9) rfl dX3_firstLost_4 ?_
      refine va_get (D := D) (ci := 2) (v := .int (sTh no)) (C := RX2) (T := TX2) (N := 10) hx hb hts i2 hown hK hP 1 rfl rfl 8 (by decide) f171 (fun _ h9 => h9) rfl dX3_firstLost_7 ?_
      refine lv_icmp_ge (tgt := 43) hx hb dX3_firstLost_10 (by decide) (fun c10 => ?_) (fun c10 => ?_)
      · replace h := fx_ite_t c10 h
        refine lv_bipush (v := (-9)) hx hb dX3_firstLost_43 (by decide) ?_
        obtain rfl := ret1 h
        exact rI hQ hx hb hr hlocks hAe hP hS rfl rfl dX3_firstLost_45
      · replace h := fx_ite_f c10 h
        refine lv_aload_n hx hb dX3_firstLost_13 rfl (lv_at hl 0 rfl) ?_
        refine va_get (D := D) (ci := 3) (v := .ref (a 1)) (C := RX3) (T := TX3) (N := 11) hx hb hts i3 hown hK hP 0 rfl rfl 0 (by decide) f10 (fun _ h9 => h9) rfl dX3_firstLost_14 ?_
        refine lv_iload_n hx hb dX3_firstLost_17 rfl (lv_at hl 1 rfl) ?_
        obtain ⟨r18, q18, h⟩ := bnd1_inv h
        refine kVI (n := 1) (As := [.int x1]) (rest := []) CF hl hK hP hD hS hA (c_X2_isWhole l D cI (a 1) (a 2) (a 3) (a 4) (a 5) (a 6) (a 7) (a 8) no x1 r18 q18) gX3_firstLost_X2_isWhole rfl dX3_firstLost_18 (by decide +kernel) ⟨⟨rfl, rfl⟩, ⟨Nat.le_of_ble_eq_true rfl, Nat.le_of_ble_eq_true rfl⟩, Nat.zero_le _, Nat.zero_le _⟩ (JN.ro [1, 2, 3, 4, 5, 6, 7, 8] rfl rfl) 1 rfl ⟨rfl, rfl⟩ rfl rfl (Nat.le_of_ble_eq_true rfl) (fun H locs hP hD hS => ?_)
        refine lv_if_eq (tgt := 37) hx hb dX3_firstLost_21 (by decide) (fun c21 => ?_) (fun c21 => ?_)
        · replace h := fx_ite_t c21 h
          refine lv_iinc (v := (x1 + 1)) (lv' := [(1, .int (x1 + 1)), (0, .ref (a 0))]) hx hb dX3_firstLost_37 hl (k := 1) rfl (by first | rfl | decide) (by decide) rfl (fun ls hl => ?_)
          refine lv_goto (tgt := 2) hx hb dX3_firstLost_40 (by decide) ?_
          exact ih _ h  _ _ _ hP hD hS (lv_sub hl [1, 0] rfl)
        · replace h := fx_ite_f c21 h
          refine lv_aload_n hx hb dX3_firstLost_24 rfl (lv_at hl 0 rfl) ?_
          refine va_get (D := D) (ci := 3) (v := .ref (a 9)) (C := RX3) (T := TX3) (N := 11) hx hb hts i3 hown hK hP 0 rfl rfl 1 (by decide) f16 (fun _ h9 => h9) rfl dX3_firstLost_25 ?_
          refine lv_iload_n hx hb dX3_firstLost_28 rfl (lv_at hl 1 rfl) ?_
          obtain ⟨r29, q29, h⟩ := bnd1_inv h
          refine kVI (n := 1) (As := [.int x1]) (rest := []) CF hl hK hP hD hS hA (c_X2_isWhole l D cI (a 9) (a 10) (a 11) (a 12) (a 13) (a 14) (a 15) (a 16) mi x1 r29 q29) gX3_firstLost_X2_isWhole rfl dX3_firstLost_29 (by decide +kernel) ⟨⟨rfl, rfl⟩, ⟨Nat.le_of_ble_eq_true rfl, Nat.le_of_ble_eq_true rfl⟩, Nat.zero_le _, Nat.zero_le _⟩ (JN.ro [9, 10, 11, 12, 13, 14, 15, 16] rfl rfl) 9 rfl ⟨rfl, rfl⟩ rfl rfl (Nat.le_of_ble_eq_true rfl) (fun H locs hP hD hS => ?_)
          refine lv_if_ne (tgt := 37) hx hb dX3_firstLost_32 (by decide) (fun c32 => ?_) (fun c32 => ?_)
          · replace h := fx_ite_f c32 h
            refine lv_iinc (v := (x1 + 1)) (lv' := [(1, .int (x1 + 1)), (0, .ref (a 0))]) hx hb dX3_firstLost_37 hl (k := 1) rfl (by first | rfl | decide) (by decide) rfl (fun ls hl => ?_)
            refine lv_goto (tgt := 2) hx hb dX3_firstLost_40 (by decide) ?_
            exact ih _ h  _ _ _ hP hD hS (lv_sub hl [1, 0] rfl)
          · replace h := fx_ite_t c32 h
            refine lv_iload_n hx hb dX3_firstLost_35 rfl (lv_at hl 1 rfl) ?_
            obtain rfl := ret1 h
            exact rI hQ hx hb hr hlocks hAe hP hS rfl rfl dX3_firstLost_36
  unfold M_X3_firstLost at h
  refine lv_iconst (v := 0) hx hb dX3_firstLost_0 (by decide) ?_
  refine lv_istore_n (lv' := [(1, .int (0 : Int32)), (0, .ref (a 0))]) hx hb dX3_firstLost_1 rfl hl (by decide) rfl (fun ls hl => ?_)
  exact L2 FU _ h  _ _ _ hP hD hS (lv_sub hl [1, 0] rfl)
/-! X3_first -/
set_option maxHeartbeats 4000000 in
set_option maxRecDepth 100000 in
theorem c_X3_first (l : Launch) (D : va_G) (cI : ClassId) (a : Nat → Nat) (no : SV) (mi : SV) (ke : SV) (hk : Int32) (sg : (Nat → Int32)) (lz : Int32) (rn : (Nat → Int32)) (rs : Int32) (rf : (Nat → Int32)) (be : (Nat → Int32)) (fh : (Nat → Int32)) (oh : (Nat → Int32)) (p1 : Int32) (res : Int32) (u_mi : SV) (u_rf : (Nat → Int32)) (h : M_X3_first no mi rf p1 = some (res, u_mi, u_rf)) : mI l yX3_first wsX3_first { frames := 5, cells := 0, slots := 0, locals := 115 } D cI [.ref (a 0), .int p1] (cX a cI no mi ke hk sg lz rn rs rf be fh oh) (cX a cI no u_mi ke hk sg lz rn rs u_rf be fh oh) res := by
  intro sz
  refine mStart (cc := cX3_first) (maxL := 4) (ret := (some .int)) (own := RX3) (by decide) rfl rfl (Nat.le_of_ble_eq_true rfl) (lv := [(0, .ref (a 0)), (1, .int p1)]) rfl ?_
  intro p e s m args below meth c A ls Q H locs CF hr hlocks hK hP hD hS hA hAe hl hQ
  obtain ⟨hx, hb, hml, hown, hts⟩ := id CF
  have f10 := hts (.fieldLink RX3 10 "MendAnothersBreaking" "now" "LMendAnothersBreaking$State;") (List.mem_of_getElem? (i := 2) rfl)
  have f16 := hts (.fieldLink RX3 16 "MendAnothersBreaking" "mind" "LMendAnothersBreaking$State;") (List.mem_of_getElem? (i := 1) rfl)
  have i3 : ∀ w ∈ wsX30, w ∈ wsX3_first := fun w h => List.mem_cons_of_mem _ (List.mem_append_left _ (List.mem_append_right _ h))
  have L29 : ∀ (n : Nat) (x1 : Int32) (rf : (Nat → Int32)) (x2 : Int32) (mi : SV), fuel (fun _ _ => none) (B_X3_first_29 x1 no rf) n x2 mi = some (res, u_mi, u_rf) → 
      ∀ (H : Heap) (locs : List Loc) (ls : Array Slot), va_P D vwCl (cX a cI no mi ke hk sg lz rn rs rf be fh oh) H → va_D A (cX a cI no mi ke hk sg lz rn rs rf be fh oh) → va_S A s.heap H locs → lv_has ls 4 [(0, .ref (a 0)), (1, .int x1), (2, .int x2)] → W p l e { frames := 5, cells := 0, slots := 0, locals := 115 } s m args below meth c H locs 0 0 Q (F0 m 29 ls []) := by
    intro n
    induction n with
    | zero =>
      intro x1 rf x2 mi h
      exact nomatch (show (none : Option (Int32 × SV × (Nat → Int32))) = some (res, u_mi, u_rf) from h)
    | succ n ih =>
      intro x1 rf x2 mi h  H locs ls hP hD hS hl
      replace h : B_X3_first_29 x1 no rf (fuel (fun _ _ => none) (B_X3_first_29 x1 no rf) n) x2 mi = some (res, u_mi, u_rf) := h
      unfold B_X3_first_29 at h
      refine lv_iload_n hx hb dX3_first_29 rfl (lv_at hl 2 rfl) ?_
      refine lv_bipush (v := 99) hx hb dX3_first_30 (by decide) ?_
      refine lv_icmp_gt (tgt := 73) hx hb dX3_first_32 (by decide) (fun c32 => ?_) (fun c32 => ?_)
      · replace h := fx_ite_t c32 h
        refine lv_bipush (v := (-9)) hx hb dX3_first_73 (by decide) ?_
        obtain ⟨rfl, rfl, rfl⟩ := ret3 h
        exact rI hQ hx hb hr hlocks hAe hP hS rfl rfl dX3_first_75
      · replace h := fx_ite_f c32 h
        refine lv_aload_n hx hb dX3_first_35 rfl (lv_at hl 0 rfl) ?_
        refine va_get (D := D) (ci := 3) (v := .ref (a 9)) (C := RX3) (T := TX3) (N := 11) hx hb hts i3 hown hK hP 0 rfl rfl 1 (by decide) f16 (fun _ h9 => h9) rfl dX3_first_36 ?_
        refine lv_iconst (v := 1) hx hb dX3_first_39 (by decide) ?_
        refine lv_iconst (v := 1) hx hb dX3_first_40 (by decide) ?_
        refine lv_bipush (v := (-9)) hx hb dX3_first_41 (by decide) ?_
        obtain ⟨u43_mi, q43, h⟩ := bnd1_inv h
        refine kVV (n := 3) (As := [.int (1 : Int32), .int (1 : Int32), .int (-9 : Int32)]) (rest := []) CF hl hK hP hD hS hA (c_X2_pass l D cI (a 9) (a 10) (a 11) (a 12) (a 13) (a 14) (a 15) (a 16) mi (1 : Int32) (1 : Int32) (-9 : Int32) u43_mi q43) gX3_first_X2_pass rfl dX3_first_43 (by decide +kernel) ⟨⟨rfl, rfl⟩, ⟨Nat.le_of_ble_eq_true rfl, Nat.le_of_ble_eq_true rfl⟩, Nat.zero_le _, Nat.zero_le _⟩ (JN.sub (wst' := (cX a cI no u43_mi ke hk sg lz rn rs rf be fh oh)) [9, 10, 11, 12, 13, 14, 15, 16] rfl rfl rfl rfl) 9 rfl ⟨rfl, rfl⟩ rfl rfl (Nat.le_of_ble_eq_true rfl) (fun H locs hP hD hS => ?_)
        replace hP : va_P D vwCl (cX a cI no u43_mi ke hk sg lz rn rs rf be fh oh) H := hP
        replace hD : va_D A (cX a cI no u43_mi ke hk sg lz rn rs rf be fh oh) := hD
        refine lv_aload_n hx hb dX3_first_46 rfl (lv_at hl 0 rfl) ?_
        obtain ⟨r47, q47, h⟩ := bnd1_inv h
        refine kVI (n := 0) (As := []) (rest := []) CF hl hK hP hD hS hA (c_X3_firstLost l D cI a no u43_mi ke hk sg lz rn rs rf be fh oh  r47 q47) gX3_first_X3_firstLost rfl dX3_first_47 (by decide +kernel) ⟨⟨rfl, rfl⟩, ⟨Nat.le_of_ble_eq_true rfl, Nat.le_of_ble_eq_true rfl⟩, Nat.zero_le _, Nat.zero_le _⟩ (JN.whole rfl) 0 rfl ⟨rfl, rfl⟩ rfl rfl (Nat.le_of_ble_eq_true rfl) (fun H locs hP hD hS => ?_)
        replace hP : va_P D vwCl (cX a cI no u43_mi ke hk sg lz rn rs rf be fh oh) H := hP
        replace hD : va_D A (cX a cI no u43_mi ke hk sg lz rn rs rf be fh oh) := hD
        refine lv_istore_n (lv' := [(3, .int r47), (0, .ref (a 0)), (1, .int x1), (2, .int x2)]) hx hb dX3_first_50 rfl hl (by decide) rfl (fun ls hl => ?_)
        refine lv_iload_n hx hb dX3_first_51 rfl (lv_at hl 0 rfl) ?_
        refine lv_bipush (v := (-9)) hx hb dX3_first_52 (by decide) ?_
        refine lv_icmp_eq (tgt := 67) hx hb dX3_first_54 (by decide) (fun c54 => ?_) (fun c54 => ?_)
        · replace h := fx_ite_t c54 h
          refine lv_iinc (v := (x2 + 1)) (lv' := [(2, .int (x2 + 1)), (3, .int r47), (0, .ref (a 0)), (1, .int x1)]) hx hb dX3_first_67 hl (k := 3) rfl (by first | rfl | decide) (by decide) rfl (fun ls hl => ?_)
          refine lv_goto (tgt := 29) hx hb dX3_first_70 (by decide) ?_
          exact ih _ _ _ _ h  _ _ _ hP hD hS (lv_sub hl [2, 3, 0] rfl)
        · replace h := fx_ite_f c54 h
          refine lv_iload_n hx hb dX3_first_57 rfl (lv_at hl 2 rfl) ?_
          refine lv_if_ne (tgt := 65) hx hb dX3_first_58 (by decide) (fun c58 => ?_) (fun c58 => ?_)
          · replace h := fx_ite_f c58 h
            refine lv_iload_n hx hb dX3_first_65 rfl (lv_at hl 3 rfl) ?_
            obtain ⟨rfl, rfl, rfl⟩ := ret3 h
            exact rI hQ hx hb hr hlocks hAe hP hS rfl rfl dX3_first_66
          · replace h := fx_ite_t c58 h
            refine lv_iload_n hx hb dX3_first_61 rfl (lv_at hl 0 rfl) ?_
            refine lv_goto (tgt := 66) hx hb dX3_first_62 (by decide) ?_
            obtain ⟨rfl, rfl, rfl⟩ := ret3 h
            exact rI hQ hx hb hr hlocks hAe hP hS rfl rfl dX3_first_66
  unfold M_X3_first at h
  refine lv_iload_n hx hb dX3_first_0 rfl (lv_at hl 1 rfl) ?_
  refine lv_if_lt (tgt := 9) hx hb dX3_first_1 (by decide) (fun c1 => ?_) (fun c1 => ?_)
  · replace h := fx_ite_t c1 h
    refine lv_aload_n hx hb dX3_first_9 rfl (lv_at hl 0 rfl) ?_
    refine lv_bipush (v := (-2)) hx hb dX3_first_10 (by decide) ?_
    obtain ⟨r12, u12_rf, q12, h⟩ := bnd2_inv h
    refine kVI (n := 1) (As := [.int (-2 : Int32)]) (rest := []) CF hl hK hP hD hS hA (c_X3_refuse l D cI a no mi ke hk sg lz rn rs rf be fh oh (-2 : Int32) r12 u12_rf q12) gX3_first_X3_refuse rfl dX3_first_12 (by decide +kernel) ⟨⟨rfl, rfl⟩, ⟨Nat.le_of_ble_eq_true rfl, Nat.le_of_ble_eq_true rfl⟩, Nat.zero_le _, Nat.zero_le _⟩ (JN.whole (w1 := (cX a cI no mi ke hk sg lz rn rs u12_rf be fh oh)) rfl) 0 rfl ⟨rfl, rfl⟩ rfl rfl (Nat.le_of_ble_eq_true rfl) (fun H locs hP hD hS => ?_)
    replace hP : va_P D vwCl (cX a cI no mi ke hk sg lz rn rs u12_rf be fh oh) H := hP
    replace hD : va_D A (cX a cI no mi ke hk sg lz rn rs u12_rf be fh oh) := hD
    obtain ⟨rfl, rfl, rfl⟩ := ret3 h
    exact rI hQ hx hb hr hlocks hAe hP hS rfl rfl dX3_first_15
  · replace h := fx_ite_f c1 h
    refine lv_iload_n hx hb dX3_first_4 rfl (lv_at hl 1 rfl) ?_
    refine lv_iconst (v := 1) hx hb dX3_first_5 (by decide) ?_
    refine lv_icmp_le (tgt := 16) hx hb dX3_first_6 (by decide) (fun c6 => ?_) (fun c6 => ?_)
    · replace h := fx_ite_t c6 h
      refine lv_aload_n hx hb dX3_first_16 rfl (lv_at hl 0 rfl) ?_
      refine va_get (D := D) (ci := 3) (v := .ref (a 9)) (C := RX3) (T := TX3) (N := 11) hx hb hts i3 hown hK hP 0 rfl rfl 1 (by decide) f16 (fun _ h9 => h9) rfl dX3_first_17 ?_
      refine lv_aload_n hx hb dX3_first_20 rfl (lv_at hl 0 rfl) ?_
      refine va_get (D := D) (ci := 3) (v := .ref (a 1)) (C := RX3) (T := TX3) (N := 11) hx hb hts i3 hown hK hP 0 rfl rfl 0 (by decide) f10 (fun _ h9 => h9) rfl dX3_first_21 ?_
      obtain ⟨u24_mi, q24, h⟩ := bnd1_inv h
      refine kVV (n := 1) (As := [.ref (a 1)]) (rest := []) CF hl hK hP hD hS hA (c_X2_become l D cI (a 9) (a 10) (a 11) (a 12) (a 13) (a 14) (a 15) (a 16) (a 1) (a 2) (a 3) (a 4) (a 5) (a 6) (a 7) (a 8) mi no  u24_mi q24) gX3_first_X2_become rfl dX3_first_24 (by decide +kernel) ⟨⟨rfl, rfl⟩, ⟨Nat.le_of_ble_eq_true rfl, Nat.le_of_ble_eq_true rfl⟩, Nat.zero_le _, Nat.zero_le _⟩ (JN.sub (wst' := (cX a cI no u24_mi ke hk sg lz rn rs rf be fh oh)) [9, 10, 11, 12, 13, 14, 15, 16, 1, 2, 3, 4, 5, 6, 7, 8] rfl rfl rfl rfl) 9 rfl ⟨rfl, rfl⟩ rfl rfl (Nat.le_of_ble_eq_true rfl) (fun H locs hP hD hS => ?_)
      replace hP : va_P D vwCl (cX a cI no u24_mi ke hk sg lz rn rs rf be fh oh) H := hP
      replace hD : va_D A (cX a cI no u24_mi ke hk sg lz rn rs rf be fh oh) := hD
      refine lv_iconst (v := 1) hx hb dX3_first_27 (by decide) ?_
      refine lv_istore_n (lv' := [(2, .int (1 : Int32)), (0, .ref (a 0)), (1, .int p1)]) hx hb dX3_first_28 rfl hl (by decide) rfl (fun ls hl => ?_)
      exact L29 FU _ _ _ _ h  _ _ _ hP hD hS (lv_sub hl [1, 2, 0] rfl)
    · replace h := fx_ite_f c6 h
      refine lv_aload_n hx hb dX3_first_9 rfl (lv_at hl 0 rfl) ?_
      refine lv_bipush (v := (-2)) hx hb dX3_first_10 (by decide) ?_
      obtain ⟨r12, u12_rf, q12, h⟩ := bnd2_inv h
      refine kVI (n := 1) (As := [.int (-2 : Int32)]) (rest := []) CF hl hK hP hD hS hA (c_X3_refuse l D cI a no mi ke hk sg lz rn rs rf be fh oh (-2 : Int32) r12 u12_rf q12) gX3_first_X3_refuse rfl dX3_first_12 (by decide +kernel) ⟨⟨rfl, rfl⟩, ⟨Nat.le_of_ble_eq_true rfl, Nat.le_of_ble_eq_true rfl⟩, Nat.zero_le _, Nat.zero_le _⟩ (JN.whole (w1 := (cX a cI no mi ke hk sg lz rn rs u12_rf be fh oh)) rfl) 0 rfl ⟨rfl, rfl⟩ rfl rfl (Nat.le_of_ble_eq_true rfl) (fun H locs hP hD hS => ?_)
      replace hP : va_P D vwCl (cX a cI no mi ke hk sg lz rn rs u12_rf be fh oh) H := hP
      replace hD : va_D A (cX a cI no mi ke hk sg lz rn rs u12_rf be fh oh) := hD
      obtain ⟨rfl, rfl, rfl⟩ := ret3 h
      exact rI hQ hx hb hr hlocks hAe hP hS rfl rfl dX3_first_15
/-! X3_menders -/
set_option maxHeartbeats 4000000 in
set_option maxRecDepth 100000 in
theorem c_X3_menders (l : Launch) (D : va_G) (cI : ClassId) (a : Nat → Nat) (no : SV) (mi : SV) (ke : SV) (hk : Int32) (sg : (Nat → Int32)) (lz : Int32) (rn : (Nat → Int32)) (rs : Int32) (rf : (Nat → Int32)) (be : (Nat → Int32)) (fh : (Nat → Int32)) (oh : (Nat → Int32)) (p1 : Int32) (res : Int32) (u_rf : (Nat → Int32)) (h : M_X3_menders no rf p1 = some (res, u_rf)) : mI l yX3_menders wsX3_menders { frames := 3, cells := 0, slots := 0, locals := 69 } D cI [.ref (a 0), .int p1] (cX a cI no mi ke hk sg lz rn rs rf be fh oh) (cX a cI no mi ke hk sg lz rn rs u_rf be fh oh) res := by
  intro sz
  refine mStart (cc := cX3_menders) (maxL := 2) (ret := (some .int)) (own := RX3) (by decide) rfl rfl (Nat.le_of_ble_eq_true rfl) (lv := [(0, .ref (a 0)), (1, .int p1)]) rfl ?_
  intro p e s m args below meth c A ls Q H locs CF hr hlocks hK hP hD hS hA hAe hl hQ
  obtain ⟨hx, hb, hml, hown, hts⟩ := id CF
  have f10 := hts (.fieldLink RX3 10 "MendAnothersBreaking" "now" "LMendAnothersBreaking$State;") (List.mem_of_getElem? (i := 1) rfl)
  have i3 : ∀ w ∈ wsX30, w ∈ wsX3_menders := fun w h => List.mem_cons_of_mem _ (List.mem_append_left _ (List.mem_append_right _ h))
  unfold M_X3_menders at h
  refine lv_aload_n hx hb dX3_menders_0 rfl (lv_at hl 0 rfl) ?_
  refine va_get (D := D) (ci := 3) (v := .ref (a 1)) (C := RX3) (T := TX3) (N := 11) hx hb hts i3 hown hK hP 0 rfl rfl 0 (by decide) f10 (fun _ h9 => h9) rfl dX3_menders_1 ?_
  refine lv_iload_n hx hb dX3_menders_4 rfl (lv_at hl 1 rfl) ?_
  obtain ⟨r5, q5, h⟩ := bnd1_inv h
  refine kVI (n := 1) (As := [.int p1]) (rest := []) CF hl hK hP hD hS hA (c_X2_isThing l D cI (a 1) (a 2) (a 3) (a 4) (a 5) (a 6) (a 7) (a 8) no p1 r5 q5) gX3_menders_X2_isThing rfl dX3_menders_5 (by decide +kernel) ⟨⟨rfl, rfl⟩, ⟨Nat.le_of_ble_eq_true rfl, Nat.le_of_ble_eq_true rfl⟩, Nat.zero_le _, Nat.zero_le _⟩ (JN.ro [1, 2, 3, 4, 5, 6, 7, 8] rfl rfl) 1 rfl ⟨rfl, rfl⟩ rfl rfl (Nat.le_of_ble_eq_true rfl) (fun H locs hP hD hS => ?_)
  refine lv_if_ne (tgt := 17) hx hb dX3_menders_8 (by decide) (fun c8 => ?_) (fun c8 => ?_)
  · replace h := fx_ite_f c8 h
    refine lv_aload_n hx hb dX3_menders_17 rfl (lv_at hl 0 rfl) ?_
    refine va_get (D := D) (ci := 3) (v := .ref (a 1)) (C := RX3) (T := TX3) (N := 11) hx hb hts i3 hown hK hP 0 rfl rfl 0 (by decide) f10 (fun _ h9 => h9) rfl dX3_menders_18 ?_
    refine lv_iload_n hx hb dX3_menders_21 rfl (lv_at hl 1 rfl) ?_
    obtain ⟨r22, q22, h⟩ := bnd1_inv h
    refine kVI (n := 1) (As := [.int p1]) (rest := []) CF hl hK hP hD hS hA (c_X2_ableBits l D cI (a 1) (a 2) (a 3) (a 4) (a 5) (a 6) (a 7) (a 8) no p1 r22 q22) gX3_menders_X2_ableBits rfl dX3_menders_22 (by decide +kernel) ⟨⟨rfl, rfl⟩, ⟨Nat.le_of_ble_eq_true rfl, Nat.le_of_ble_eq_true rfl⟩, Nat.zero_le _, Nat.zero_le _⟩ (JN.ro [1, 2, 3, 4, 5, 6, 7, 8] rfl rfl) 1 rfl ⟨rfl, rfl⟩ rfl rfl (Nat.le_of_ble_eq_true rfl) (fun H locs hP hD hS => ?_)
    obtain ⟨rfl, rfl⟩ := ret2 h
    exact rI hQ hx hb hr hlocks hAe hP hS rfl rfl dX3_menders_25
  · replace h := fx_ite_t c8 h
    refine lv_aload_n hx hb dX3_menders_11 rfl (lv_at hl 0 rfl) ?_
    refine lv_iconst (v := (-1)) hx hb dX3_menders_12 (by decide) ?_
    obtain ⟨r13, u13_rf, q13, h⟩ := bnd2_inv h
    refine kVI (n := 1) (As := [.int (-1 : Int32)]) (rest := []) CF hl hK hP hD hS hA (c_X3_refuse l D cI a no mi ke hk sg lz rn rs rf be fh oh (-1 : Int32) r13 u13_rf q13) gX3_menders_X3_refuse rfl dX3_menders_13 (by decide +kernel) ⟨⟨rfl, rfl⟩, ⟨Nat.le_of_ble_eq_true rfl, Nat.le_of_ble_eq_true rfl⟩, Nat.zero_le _, Nat.zero_le _⟩ (JN.whole (w1 := (cX a cI no mi ke hk sg lz rn rs u13_rf be fh oh)) rfl) 0 rfl ⟨rfl, rfl⟩ rfl rfl (Nat.le_of_ble_eq_true rfl) (fun H locs hP hD hS => ?_)
    replace hP : va_P D vwCl (cX a cI no mi ke hk sg lz rn rs u13_rf be fh oh) H := hP
    replace hD : va_D A (cX a cI no mi ke hk sg lz rn rs u13_rf be fh oh) := hD
    obtain ⟨rfl, rfl⟩ := ret2 h
    exact rI hQ hx hb hr hlocks hAe hP hS rfl rfl dX3_menders_16
/-! X3_together -/
set_option maxHeartbeats 4000000 in
set_option maxRecDepth 100000 in
theorem c_X3_together (l : Launch) (D : va_G) (cI : ClassId) (a : Nat → Nat) (no : SV) (mi : SV) (ke : SV) (hk : Int32) (sg : (Nat → Int32)) (lz : Int32) (rn : (Nat → Int32)) (rs : Int32) (rf : (Nat → Int32)) (be : (Nat → Int32)) (fh : (Nat → Int32)) (oh : (Nat → Int32)) (p1 : Int32) (res : Int32) (u_rf : (Nat → Int32)) (u_be : (Nat → Int32)) (h : M_X3_together no rf be p1 = some (res, u_rf, u_be)) : mI l yX3_together wsX3_together { frames := 6, cells := 0, slots := 0, locals := 141 } D cI [.ref (a 0), .int p1] (cX a cI no mi ke hk sg lz rn rs rf be fh oh) (cX a cI no mi ke hk sg lz rn rs u_rf u_be fh oh) res := by
  intro sz
  refine mStart (cc := cX3_together) (maxL := 2) (ret := (some .int)) (own := RX3) (by decide) rfl rfl (Nat.le_of_ble_eq_true rfl) (lv := [(0, .ref (a 0)), (1, .int p1)]) rfl ?_
  intro p e s m args below meth c A ls Q H locs CF hr hlocks hK hP hD hS hA hAe hl hQ
  obtain ⟨hx, hb, hml, hown, hts⟩ := id CF
  have f10 := hts (.fieldLink RX3 10 "MendAnothersBreaking" "now" "LMendAnothersBreaking$State;") (List.mem_of_getElem? (i := 1) rfl)
  have f47 := hts (.fieldLink RX3 47 "MendAnothersBreaking" "pairing" "LMendAnothersBreaking$Pairing;") (List.mem_of_getElem? (i := 2) rfl)
  have i3 : ∀ w ∈ wsX30, w ∈ wsX3_together := fun w h => List.mem_cons_of_mem _ (List.mem_append_left _ (List.mem_append_left _ (List.mem_append_right _ h)))
  unfold M_X3_together at h
  refine lv_iload_n hx hb dX3_together_0 rfl (lv_at hl 1 rfl) ?_
  refine lv_iconst (v := (-1)) hx hb dX3_together_1 (by decide) ?_
  refine lv_icmp_eq (tgt := 22) hx hb dX3_together_2 (by decide) (fun c2 => ?_) (fun c2 => ?_)
  · replace h := fx_ite_t c2 h
    refine lv_aload_n hx hb dX3_together_22 rfl (lv_at hl 0 rfl) ?_
    refine va_get (D := D) (ci := 3) (v := .ref (a 29)) (C := RX3) (T := TX3) (N := 11) hx hb hts i3 hown hK hP 0 rfl rfl 8 (by decide) f47 (fun _ h9 => h9) rfl dX3_together_23 ?_
    refine lv_aload_n hx hb dX3_together_26 rfl (lv_at hl 0 rfl) ?_
    refine va_get (D := D) (ci := 3) (v := .ref (a 1)) (C := RX3) (T := TX3) (N := 11) hx hb hts i3 hown hK hP 0 rfl rfl 0 (by decide) f10 (fun _ h9 => h9) rfl dX3_together_27 ?_
    obtain ⟨u30_be, q30, h⟩ := bnd1_inv h
    refine kVV (n := 1) (As := [.ref (a 1)]) (rest := []) CF hl hK hP hD hS hA (c_X1_fill l D cI (a 29) (a 30) (a 1) (a 2) (a 3) (a 4) (a 5) (a 6) (a 7) (a 8) be no  u30_be q30) gX3_together_X1_fill rfl dX3_together_30 (by decide +kernel) ⟨⟨rfl, rfl⟩, ⟨Nat.le_of_ble_eq_true rfl, Nat.le_of_ble_eq_true rfl⟩, Nat.zero_le _, Nat.zero_le _⟩ (JN.sub (wst' := (cX a cI no mi ke hk sg lz rn rs rf u30_be fh oh)) [29, 30, 1, 2, 3, 4, 5, 6, 7, 8] rfl rfl rfl rfl) 29 rfl ⟨rfl, rfl⟩ rfl rfl (Nat.le_of_ble_eq_true rfl) (fun H locs hP hD hS => ?_)
    replace hP : va_P D vwCl (cX a cI no mi ke hk sg lz rn rs rf u30_be fh oh) H := hP
    replace hD : va_D A (cX a cI no mi ke hk sg lz rn rs rf u30_be fh oh) := hD
    refine lv_iload_n hx hb dX3_together_33 rfl (lv_at hl 1 rfl) ?_
    refine lv_iconst (v := (-1)) hx hb dX3_together_34 (by decide) ?_
    refine lv_icmp_ne (tgt := 48) hx hb dX3_together_35 (by decide) (fun c35 => ?_) (fun c35 => ?_)
    · replace h := fx_ite_f c35 h
      refine lv_aload_n hx hb dX3_together_48 rfl (lv_at hl 0 rfl) ?_
      refine va_get (D := D) (ci := 3) (v := .ref (a 29)) (C := RX3) (T := TX3) (N := 11) hx hb hts i3 hown hK hP 0 rfl rfl 8 (by decide) f47 (fun _ h9 => h9) rfl dX3_together_49 ?_
      refine lv_aload_n hx hb dX3_together_52 rfl (lv_at hl 0 rfl) ?_
      refine va_get (D := D) (ci := 3) (v := .ref (a 1)) (C := RX3) (T := TX3) (N := 11) hx hb hts i3 hown hK hP 0 rfl rfl 0 (by decide) f10 (fun _ h9 => h9) rfl dX3_together_53 ?_
      refine lv_iload_n hx hb dX3_together_56 rfl (lv_at hl 1 rfl) ?_
      obtain ⟨r57, q57, h⟩ := bnd1_inv h
      refine kVI (n := 2) (As := [.ref (a 1), .int p1]) (rest := []) CF hl hK hP hD hS hA (c_X1_menderOf l D cI (a 29) (a 30) (a 1) (a 2) (a 3) (a 4) (a 5) (a 6) (a 7) (a 8) u30_be no p1 r57 q57) gX3_together_X1_menderOf rfl dX3_together_57 (by decide +kernel) ⟨⟨rfl, rfl⟩, ⟨Nat.le_of_ble_eq_true rfl, Nat.le_of_ble_eq_true rfl⟩, Nat.zero_le _, Nat.zero_le _⟩ (JN.ro [29, 30, 1, 2, 3, 4, 5, 6, 7, 8] rfl rfl) 29 rfl ⟨rfl, rfl⟩ rfl rfl (Nat.le_of_ble_eq_true rfl) (fun H locs hP hD hS => ?_)
      obtain ⟨rfl, rfl, rfl⟩ := ret3 h
      exact rI hQ hx hb hr hlocks hAe hP hS rfl rfl dX3_together_60
    · replace h := fx_ite_t c35 h
      refine lv_aload_n hx hb dX3_together_38 rfl (lv_at hl 0 rfl) ?_
      refine va_get (D := D) (ci := 3) (v := .ref (a 29)) (C := RX3) (T := TX3) (N := 11) hx hb hts i3 hown hK hP 0 rfl rfl 8 (by decide) f47 (fun _ h9 => h9) rfl dX3_together_39 ?_
      obtain ⟨r42, q42, h⟩ := bnd1_inv h
      refine kVI (n := 0) (As := []) (rest := []) CF hl hK hP hD hS hA (c_X1_most l D cI (a 29) (a 30) u30_be  r42 q42) gX3_together_X1_most rfl dX3_together_42 (by decide +kernel) ⟨⟨rfl, rfl⟩, ⟨Nat.le_of_ble_eq_true rfl, Nat.le_of_ble_eq_true rfl⟩, Nat.zero_le _, Nat.zero_le _⟩ (JN.ro [29, 30] rfl rfl) 29 rfl ⟨rfl, rfl⟩ rfl rfl (Nat.le_of_ble_eq_true rfl) (fun H locs hP hD hS => ?_)
      refine lv_goto (tgt := 60) hx hb dX3_together_45 (by decide) ?_
      obtain ⟨rfl, rfl, rfl⟩ := ret3 h
      exact rI hQ hx hb hr hlocks hAe hP hS rfl rfl dX3_together_60
  · replace h := fx_ite_f c2 h
    refine lv_aload_n hx hb dX3_together_5 rfl (lv_at hl 0 rfl) ?_
    refine va_get (D := D) (ci := 3) (v := .ref (a 1)) (C := RX3) (T := TX3) (N := 11) hx hb hts i3 hown hK hP 0 rfl rfl 0 (by decide) f10 (fun _ h9 => h9) rfl dX3_together_6 ?_
    refine lv_iload_n hx hb dX3_together_9 rfl (lv_at hl 1 rfl) ?_
    obtain ⟨r10, q10, h⟩ := bnd1_inv h
    refine kVI (n := 1) (As := [.int p1]) (rest := []) CF hl hK hP hD hS hA (c_X2_isThing l D cI (a 1) (a 2) (a 3) (a 4) (a 5) (a 6) (a 7) (a 8) no p1 r10 q10) gX3_together_X2_isThing rfl dX3_together_10 (by decide +kernel) ⟨⟨rfl, rfl⟩, ⟨Nat.le_of_ble_eq_true rfl, Nat.le_of_ble_eq_true rfl⟩, Nat.zero_le _, Nat.zero_le _⟩ (JN.ro [1, 2, 3, 4, 5, 6, 7, 8] rfl rfl) 1 rfl ⟨rfl, rfl⟩ rfl rfl (Nat.le_of_ble_eq_true rfl) (fun H locs hP hD hS => ?_)
    refine lv_if_ne (tgt := 22) hx hb dX3_together_13 (by decide) (fun c13 => ?_) (fun c13 => ?_)
    · replace h := fx_ite_f c13 h
      refine lv_aload_n hx hb dX3_together_22 rfl (lv_at hl 0 rfl) ?_
      refine va_get (D := D) (ci := 3) (v := .ref (a 29)) (C := RX3) (T := TX3) (N := 11) hx hb hts i3 hown hK hP 0 rfl rfl 8 (by decide) f47 (fun _ h9 => h9) rfl dX3_together_23 ?_
      refine lv_aload_n hx hb dX3_together_26 rfl (lv_at hl 0 rfl) ?_
      refine va_get (D := D) (ci := 3) (v := .ref (a 1)) (C := RX3) (T := TX3) (N := 11) hx hb hts i3 hown hK hP 0 rfl rfl 0 (by decide) f10 (fun _ h9 => h9) rfl dX3_together_27 ?_
      obtain ⟨u30_be, q30, h⟩ := bnd1_inv h
      refine kVV (n := 1) (As := [.ref (a 1)]) (rest := []) CF hl hK hP hD hS hA (c_X1_fill l D cI (a 29) (a 30) (a 1) (a 2) (a 3) (a 4) (a 5) (a 6) (a 7) (a 8) be no  u30_be q30) gX3_together_X1_fill rfl dX3_together_30 (by decide +kernel) ⟨⟨rfl, rfl⟩, ⟨Nat.le_of_ble_eq_true rfl, Nat.le_of_ble_eq_true rfl⟩, Nat.zero_le _, Nat.zero_le _⟩ (JN.sub (wst' := (cX a cI no mi ke hk sg lz rn rs rf u30_be fh oh)) [29, 30, 1, 2, 3, 4, 5, 6, 7, 8] rfl rfl rfl rfl) 29 rfl ⟨rfl, rfl⟩ rfl rfl (Nat.le_of_ble_eq_true rfl) (fun H locs hP hD hS => ?_)
      replace hP : va_P D vwCl (cX a cI no mi ke hk sg lz rn rs rf u30_be fh oh) H := hP
      replace hD : va_D A (cX a cI no mi ke hk sg lz rn rs rf u30_be fh oh) := hD
      refine lv_iload_n hx hb dX3_together_33 rfl (lv_at hl 1 rfl) ?_
      refine lv_iconst (v := (-1)) hx hb dX3_together_34 (by decide) ?_
      refine lv_icmp_ne (tgt := 48) hx hb dX3_together_35 (by decide) (fun c35 => ?_) (fun c35 => ?_)
      · replace h := fx_ite_f c35 h
        refine lv_aload_n hx hb dX3_together_48 rfl (lv_at hl 0 rfl) ?_
        refine va_get (D := D) (ci := 3) (v := .ref (a 29)) (C := RX3) (T := TX3) (N := 11) hx hb hts i3 hown hK hP 0 rfl rfl 8 (by decide) f47 (fun _ h9 => h9) rfl dX3_together_49 ?_
        refine lv_aload_n hx hb dX3_together_52 rfl (lv_at hl 0 rfl) ?_
        refine va_get (D := D) (ci := 3) (v := .ref (a 1)) (C := RX3) (T := TX3) (N := 11) hx hb hts i3 hown hK hP 0 rfl rfl 0 (by decide) f10 (fun _ h9 => h9) rfl dX3_together_53 ?_
        refine lv_iload_n hx hb dX3_together_56 rfl (lv_at hl 1 rfl) ?_
        obtain ⟨r57, q57, h⟩ := bnd1_inv h
        refine kVI (n := 2) (As := [.ref (a 1), .int p1]) (rest := []) CF hl hK hP hD hS hA (c_X1_menderOf l D cI (a 29) (a 30) (a 1) (a 2) (a 3) (a 4) (a 5) (a 6) (a 7) (a 8) u30_be no p1 r57 q57) gX3_together_X1_menderOf rfl dX3_together_57 (by decide +kernel) ⟨⟨rfl, rfl⟩, ⟨Nat.le_of_ble_eq_true rfl, Nat.le_of_ble_eq_true rfl⟩, Nat.zero_le _, Nat.zero_le _⟩ (JN.ro [29, 30, 1, 2, 3, 4, 5, 6, 7, 8] rfl rfl) 29 rfl ⟨rfl, rfl⟩ rfl rfl (Nat.le_of_ble_eq_true rfl) (fun H locs hP hD hS => ?_)
        obtain ⟨rfl, rfl, rfl⟩ := ret3 h
        exact rI hQ hx hb hr hlocks hAe hP hS rfl rfl dX3_together_60
      · replace h := fx_ite_t c35 h
        refine lv_aload_n hx hb dX3_together_38 rfl (lv_at hl 0 rfl) ?_
        refine va_get (D := D) (ci := 3) (v := .ref (a 29)) (C := RX3) (T := TX3) (N := 11) hx hb hts i3 hown hK hP 0 rfl rfl 8 (by decide) f47 (fun _ h9 => h9) rfl dX3_together_39 ?_
        obtain ⟨r42, q42, h⟩ := bnd1_inv h
        refine kVI (n := 0) (As := []) (rest := []) CF hl hK hP hD hS hA (c_X1_most l D cI (a 29) (a 30) u30_be  r42 q42) gX3_together_X1_most rfl dX3_together_42 (by decide +kernel) ⟨⟨rfl, rfl⟩, ⟨Nat.le_of_ble_eq_true rfl, Nat.le_of_ble_eq_true rfl⟩, Nat.zero_le _, Nat.zero_le _⟩ (JN.ro [29, 30] rfl rfl) 29 rfl ⟨rfl, rfl⟩ rfl rfl (Nat.le_of_ble_eq_true rfl) (fun H locs hP hD hS => ?_)
        refine lv_goto (tgt := 60) hx hb dX3_together_45 (by decide) ?_
        obtain ⟨rfl, rfl, rfl⟩ := ret3 h
        exact rI hQ hx hb hr hlocks hAe hP hS rfl rfl dX3_together_60
    · replace h := fx_ite_t c13 h
      refine lv_aload_n hx hb dX3_together_16 rfl (lv_at hl 0 rfl) ?_
      refine lv_iconst (v := (-1)) hx hb dX3_together_17 (by decide) ?_
      obtain ⟨r18, u18_rf, q18, h⟩ := bnd2_inv h
      refine kVI (n := 1) (As := [.int (-1 : Int32)]) (rest := []) CF hl hK hP hD hS hA (c_X3_refuse l D cI a no mi ke hk sg lz rn rs rf be fh oh (-1 : Int32) r18 u18_rf q18) gX3_together_X3_refuse rfl dX3_together_18 (by decide +kernel) ⟨⟨rfl, rfl⟩, ⟨Nat.le_of_ble_eq_true rfl, Nat.le_of_ble_eq_true rfl⟩, Nat.zero_le _, Nat.zero_le _⟩ (JN.whole (w1 := (cX a cI no mi ke hk sg lz rn rs u18_rf be fh oh)) rfl) 0 rfl ⟨rfl, rfl⟩ rfl rfl (Nat.le_of_ble_eq_true rfl) (fun H locs hP hD hS => ?_)
      replace hP : va_P D vwCl (cX a cI no mi ke hk sg lz rn rs u18_rf be fh oh) H := hP
      replace hD : va_D A (cX a cI no mi ke hk sg lz rn rs u18_rf be fh oh) := hD
      obtain ⟨rfl, rfl, rfl⟩ := ret3 h
      exact rI hQ hx hb hr hlocks hAe hP hS rfl rfl dX3_together_21
/-! X3_lost -/
set_option maxHeartbeats 4000000 in
set_option maxRecDepth 100000 in
theorem c_X3_lost (l : Launch) (D : va_G) (cI : ClassId) (a : Nat → Nat) (no : SV) (mi : SV) (ke : SV) (hk : Int32) (sg : (Nat → Int32)) (lz : Int32) (rn : (Nat → Int32)) (rs : Int32) (rf : (Nat → Int32)) (be : (Nat → Int32)) (fh : (Nat → Int32)) (oh : (Nat → Int32))  (res : Int32) (h : M_X3_lost no = some res) : mI l yX3_lost wsX3_lost { frames := 4, cells := 0, slots := 0, locals := 91 } D cI [.ref (a 0)] (cX a cI no mi ke hk sg lz rn rs rf be fh oh) (cX a cI no mi ke hk sg lz rn rs rf be fh oh) res := by
  intro sz
  refine mStart (cc := cX3_lost) (maxL := 3) (ret := (some .int)) (own := RX3) (by decide) rfl rfl (Nat.le_of_ble_eq_true rfl) (lv := [(0, .ref (a 0))]) rfl ?_
  intro p e s m args below meth c A ls Q H locs CF hr hlocks hK hP hD hS hA hAe hl hQ
  obtain ⟨hx, hb, hml, hown, hts⟩ := id CF
  have f10 := hts (.fieldLink RX3 10 "MendAnothersBreaking" "now" "LMendAnothersBreaking$State;") (List.mem_of_getElem? (i := 1) rfl)
  have f171 := hts (.fieldLink RX3 171 "MendAnothersBreaking$State" "things" "I") (List.mem_of_getElem? (i := 2) rfl)
  have i2 : ∀ w ∈ wsX20, w ∈ wsX3_lost := fun w h => List.mem_cons_of_mem _ (List.mem_append_right _ h)
  have i3 : ∀ w ∈ wsX30, w ∈ wsX3_lost := fun w h => List.mem_cons_of_mem _ (List.mem_append_left _ (List.mem_append_right _ h))
  have L4 : ∀ (n : Nat)  (x1 : Int32) (x2 : Int32), fuel (fun _ _ => none) (B_X3_lost_4 no) n x1 x2 = some res → 
      ∀ (H : Heap) (locs : List Loc) (ls : Array Slot), va_P D vwCl (cX a cI no mi ke hk sg lz rn rs rf be fh oh) H → va_D A (cX a cI no mi ke hk sg lz rn rs rf be fh oh) → va_S A s.heap H locs → lv_has ls 3 [(0, .ref (a 0)), (1, .int x1), (2, .int x2)] → W p l e { frames := 4, cells := 0, slots := 0, locals := 91 } s m args below meth c H locs 0 0 Q (F0 m 4 ls []) := by
    intro n
    induction n with
    | zero =>
      intro x1 x2 h
      exact nomatch (show (none : Option (Int32)) = some res from h)
    | succ n ih =>
      intro x1 x2 h  H locs ls hP hD hS hl
      replace h : B_X3_lost_4 no (fuel (fun _ _ => none) (B_X3_lost_4 no) n) x1 x2 = some res := h
      unfold B_X3_lost_4 at h
      refine lv_iload_n hx hb dX3_lost_4 rfl (lv_at hl 2 rfl) ?_
      refine lv_aload_n hx hb dX3_lost_5 rfl (lv_at hl 0 rfl) ?_
      refine va_get (D := D) (ci := 3) (v := .ref (a 1)) (C := RX3) (T := TX3) (N := 11) hx hb hts i3 hown hK hP 0 rfl rfl 0 (by decide) f10 (fun _ h9 => h9) rfl dX3_lost_6 ?_
      refine va_get (D := D) (ci := 2) (v := .int (sTh no)) (C := RX2) (T := TX2) (N := 10) hx hb hts i2 hown hK hP 1 rfl rfl 8 (by decide) f171 (fun _ h9 => h9) rfl dX3_lost_9 ?_
      refine lv_icmp_ge (tgt := 49) hx hb dX3_lost_12 (by decide) (fun c12 => ?_) (fun c12 => ?_)
      · replace h := fx_ite_t c12 h
        refine lv_iload_n hx hb dX3_lost_49 rfl (lv_at hl 1 rfl) ?_
        obtain rfl := ret1 h
        exact rI hQ hx hb hr hlocks hAe hP hS rfl rfl dX3_lost_50
      · replace h := fx_ite_f c12 h
        refine lv_aload_n hx hb dX3_lost_15 rfl (lv_at hl 0 rfl) ?_
        refine va_get (D := D) (ci := 3) (v := .ref (a 1)) (C := RX3) (T := TX3) (N := 11) hx hb hts i3 hown hK hP 0 rfl rfl 0 (by decide) f10 (fun _ h9 => h9) rfl dX3_lost_16 ?_
        refine lv_iload_n hx hb dX3_lost_19 rfl (lv_at hl 2 rfl) ?_
        obtain ⟨r20, q20, h⟩ := bnd1_inv h
        refine kVI (n := 1) (As := [.int x2]) (rest := []) CF hl hK hP hD hS hA (c_X2_isWhole l D cI (a 1) (a 2) (a 3) (a 4) (a 5) (a 6) (a 7) (a 8) no x2 r20 q20) gX3_lost_X2_isWhole rfl dX3_lost_20 (by decide +kernel) ⟨⟨rfl, rfl⟩, ⟨Nat.le_of_ble_eq_true rfl, Nat.le_of_ble_eq_true rfl⟩, Nat.zero_le _, Nat.zero_le _⟩ (JN.ro [1, 2, 3, 4, 5, 6, 7, 8] rfl rfl) 1 rfl ⟨rfl, rfl⟩ rfl rfl (Nat.le_of_ble_eq_true rfl) (fun H locs hP hD hS => ?_)
        refine lv_if_ne (tgt := 43) hx hb dX3_lost_23 (by decide) (fun c23 => ?_) (fun c23 => ?_)
        · replace h := fx_ite_f c23 h
          refine lv_iinc (v := (x2 + 1)) (lv' := [(2, .int (x2 + 1)), (0, .ref (a 0)), (1, .int x1)]) hx hb dX3_lost_43 hl (k := 2) rfl (by first | rfl | decide) (by decide) rfl (fun ls hl => ?_)
          refine lv_goto (tgt := 4) hx hb dX3_lost_46 (by decide) ?_
          exact ih _ _ h  _ _ _ hP hD hS (lv_sub hl [1, 2, 0] rfl)
        · replace h := fx_ite_t c23 h
          refine lv_aload_n hx hb dX3_lost_26 rfl (lv_at hl 0 rfl) ?_
          refine va_get (D := D) (ci := 3) (v := .ref (a 1)) (C := RX3) (T := TX3) (N := 11) hx hb hts i3 hown hK hP 0 rfl rfl 0 (by decide) f10 (fun _ h9 => h9) rfl dX3_lost_27 ?_
          refine lv_iload_n hx hb dX3_lost_30 rfl (lv_at hl 2 rfl) ?_
          obtain ⟨r31, q31, h⟩ := bnd1_inv h
          refine kVI (n := 1) (As := [.int x2]) (rest := []) CF hl hK hP hD hS hA (c_X2_mendersNow l D cI (a 1) (a 2) (a 3) (a 4) (a 5) (a 6) (a 7) (a 8) no x2 r31 q31) gX3_lost_X2_mendersNow rfl dX3_lost_31 (by decide +kernel) ⟨⟨rfl, rfl⟩, ⟨Nat.le_of_ble_eq_true rfl, Nat.le_of_ble_eq_true rfl⟩, Nat.zero_le _, Nat.zero_le _⟩ (JN.ro [1, 2, 3, 4, 5, 6, 7, 8] rfl rfl) 1 rfl ⟨rfl, rfl⟩ rfl rfl (Nat.le_of_ble_eq_true rfl) (fun H locs hP hD hS => ?_)
          refine lv_if_ne (tgt := 43) hx hb dX3_lost_34 (by decide) (fun c34 => ?_) (fun c34 => ?_)
          · replace h := fx_ite_f c34 h
            refine lv_iinc (v := (x2 + 1)) (lv' := [(2, .int (x2 + 1)), (0, .ref (a 0)), (1, .int x1)]) hx hb dX3_lost_43 hl (k := 2) rfl (by first | rfl | decide) (by decide) rfl (fun ls hl => ?_)
            refine lv_goto (tgt := 4) hx hb dX3_lost_46 (by decide) ?_
            exact ih _ _ h  _ _ _ hP hD hS (lv_sub hl [1, 2, 0] rfl)
          · replace h := fx_ite_t c34 h
            refine lv_iload_n hx hb dX3_lost_37 rfl (lv_at hl 1 rfl) ?_
            refine lv_iconst (v := 1) hx hb dX3_lost_38 (by decide) ?_
            refine lv_iload_n hx hb dX3_lost_39 rfl (lv_at hl 2 rfl) ?_
            refine lv_ishl hx hb dX3_lost_40 ?_
            refine lv_ior hx hb dX3_lost_41 ?_
            refine lv_istore_n (lv' := [(1, .int (x1 ||| ((1 : Int32) <<< (x2 &&& 31)))), (0, .ref (a 0)), (2, .int x2)]) hx hb dX3_lost_42 rfl hl (by decide) rfl (fun ls hl => ?_)
            refine lv_iinc (v := (x2 + 1)) (lv' := [(2, .int (x2 + 1)), (1, .int (x1 ||| ((1 : Int32) <<< (x2 &&& 31)))), (0, .ref (a 0))]) hx hb dX3_lost_43 hl (k := 2) rfl (by first | rfl | decide) (by decide) rfl (fun ls hl => ?_)
            refine lv_goto (tgt := 4) hx hb dX3_lost_46 (by decide) ?_
            exact ih _ _ h  _ _ _ hP hD hS (lv_sub hl [2, 1, 0] rfl)
  unfold M_X3_lost at h
  refine lv_iconst (v := 0) hx hb dX3_lost_0 (by decide) ?_
  refine lv_istore_n (lv' := [(1, .int (0 : Int32)), (0, .ref (a 0))]) hx hb dX3_lost_1 rfl hl (by decide) rfl (fun ls hl => ?_)
  refine lv_iconst (v := 0) hx hb dX3_lost_2 (by decide) ?_
  refine lv_istore_n (lv' := [(2, .int (0 : Int32)), (1, .int (0 : Int32)), (0, .ref (a 0))]) hx hb dX3_lost_3 rfl hl (by decide) rfl (fun ls hl => ?_)
  exact L4 FU _ _ h  _ _ _ hP hD hS (lv_sub hl [2, 1, 0] rfl)
/-! X3_breaker -/
set_option maxHeartbeats 4000000 in
set_option maxRecDepth 100000 in
theorem c_X3_breaker (l : Launch) (D : va_G) (cI : ClassId) (a : Nat → Nat) (no : SV) (mi : SV) (ke : SV) (hk : Int32) (sg : (Nat → Int32)) (lz : Int32) (rn : (Nat → Int32)) (rs : Int32) (rf : (Nat → Int32)) (be : (Nat → Int32)) (fh : (Nat → Int32)) (oh : (Nat → Int32)) (p1 : Int32) (res : Int32) (u_mi : SV) (u_rf : (Nat → Int32)) (h : M_X3_breaker no mi rf p1 = some (res, u_mi, u_rf)) : mI l yX3_breaker wsX3_breaker { frames := 6, cells := 0, slots := 0, locals := 138 } D cI [.ref (a 0), .int p1] (cX a cI no mi ke hk sg lz rn rs rf be fh oh) (cX a cI no u_mi ke hk sg lz rn rs u_rf be fh oh) res := by
  intro sz
  refine mStart (cc := cX3_breaker) (maxL := 6) (ret := (some .int)) (own := RX3) (by decide) rfl rfl (Nat.le_of_ble_eq_true rfl) (lv := [(0, .ref (a 0)), (1, .int p1)]) rfl ?_
  intro p e s m args below meth c A ls Q H locs CF hr hlocks hK hP hD hS hA hAe hl hQ
  obtain ⟨hx, hb, hml, hown, hts⟩ := id CF
  have f10 := hts (.fieldLink RX3 10 "MendAnothersBreaking" "now" "LMendAnothersBreaking$State;") (List.mem_of_getElem? (i := 1) rfl)
  have f16 := hts (.fieldLink RX3 16 "MendAnothersBreaking" "mind" "LMendAnothersBreaking$State;") (List.mem_of_getElem? (i := 3) rfl)
  have f114 := hts (.fieldLink RX3 114 "MendAnothersBreaking$State" "breakers" "[I") (List.mem_of_getElem? (i := 4) rfl)
  have f190 := hts (.fieldLink RX3 190 "MendAnothersBreaking$State" "people" "I") (List.mem_of_getElem? (i := 2) rfl)
  have i2 : ∀ w ∈ wsX20, w ∈ wsX3_breaker := fun w h => List.mem_cons_of_mem _ (List.mem_append_right _ h)
  have i3 : ∀ w ∈ wsX30, w ∈ wsX3_breaker := fun w h => List.mem_cons_of_mem _ (List.mem_append_left _ (List.mem_append_right _ h))
  have L44 : ∀ (n : Nat) (x1 : Int32) (rf : (Nat → Int32)) (x2 : Int32) (x3 : Int32) (x4 : Int32) (mi : SV), fuel (fun _ _ _ _ => none) (B_X3_breaker_44 x1 no rf) n x2 x3 x4 mi = some (res, u_mi, u_rf) → 
      ∀ (H : Heap) (locs : List Loc) (ls : Array Slot), va_P D vwCl (cX a cI no mi ke hk sg lz rn rs rf be fh oh) H → va_D A (cX a cI no mi ke hk sg lz rn rs rf be fh oh) → va_S A s.heap H locs → lv_has ls 6 [(0, .ref (a 0)), (1, .int x1), (2, .int x2), (3, .int x3), (4, .int x4)] → W p l e { frames := 6, cells := 0, slots := 0, locals := 138 } s m args below meth c H locs 0 0 Q (F0 m 44 ls []) := by
    intro n
    induction n with
    | zero =>
      intro x1 rf x2 x3 x4 mi h
      exact nomatch (show (none : Option (Int32 × SV × (Nat → Int32))) = some (res, u_mi, u_rf) from h)
    | succ n ih =>
      intro x1 rf x2 x3 x4 mi h  H locs ls hP hD hS hl
      replace h : B_X3_breaker_44 x1 no rf (fuel (fun _ _ _ _ => none) (B_X3_breaker_44 x1 no rf) n) x2 x3 x4 mi = some (res, u_mi, u_rf) := h
      unfold B_X3_breaker_44 at h
      refine lv_iload hx hb dX3_breaker_44 (lv_at hl 4 rfl) ?_
      refine lv_aload_n hx hb dX3_breaker_46 rfl (lv_at hl 0 rfl) ?_
      refine va_get (D := D) (ci := 3) (v := .ref (a 1)) (C := RX3) (T := TX3) (N := 11) hx hb hts i3 hown hK hP 0 rfl rfl 0 (by decide) f10 (fun _ h9 => h9) rfl dX3_breaker_47 ?_
      refine va_get (D := D) (ci := 2) (v := .int (sPe no)) (C := RX2) (T := TX2) (N := 10) hx hb hts i2 hown hK hP 1 rfl rfl 7 (by decide) f190 (fun _ h9 => h9) rfl dX3_breaker_50 ?_
      refine lv_icmp_ge (tgt := 111) hx hb dX3_breaker_53 (by decide) (fun c53 => ?_) (fun c53 => ?_)
      · replace h := fx_ite_t c53 h
        refine lv_iload_n hx hb dX3_breaker_111 rfl (lv_at hl 2 rfl) ?_
        obtain ⟨rfl, rfl, rfl⟩ := ret3 h
        exact rI hQ hx hb hr hlocks hAe hP hS rfl rfl dX3_breaker_112
      · replace h := fx_ite_f c53 h
        refine lv_aload_n hx hb dX3_breaker_56 rfl (lv_at hl 0 rfl) ?_
        refine va_get (D := D) (ci := 3) (v := .ref (a 9)) (C := RX3) (T := TX3) (N := 11) hx hb hts i3 hown hK hP 0 rfl rfl 1 (by decide) f16 (fun _ h9 => h9) rfl dX3_breaker_57 ?_
        refine lv_aload_n hx hb dX3_breaker_60 rfl (lv_at hl 0 rfl) ?_
        refine va_get (D := D) (ci := 3) (v := .ref (a 1)) (C := RX3) (T := TX3) (N := 11) hx hb hts i3 hown hK hP 0 rfl rfl 0 (by decide) f10 (fun _ h9 => h9) rfl dX3_breaker_61 ?_
        obtain ⟨u64_mi, q64, h⟩ := bnd1_inv h
        refine kVV (n := 1) (As := [.ref (a 1)]) (rest := []) CF hl hK hP hD hS hA (c_X2_become l D cI (a 9) (a 10) (a 11) (a 12) (a 13) (a 14) (a 15) (a 16) (a 1) (a 2) (a 3) (a 4) (a 5) (a 6) (a 7) (a 8) mi no  u64_mi q64) gX3_breaker_X2_become rfl dX3_breaker_64 (by decide +kernel) ⟨⟨rfl, rfl⟩, ⟨Nat.le_of_ble_eq_true rfl, Nat.le_of_ble_eq_true rfl⟩, Nat.zero_le _, Nat.zero_le _⟩ (JN.sub (wst' := (cX a cI no u64_mi ke hk sg lz rn rs rf be fh oh)) [9, 10, 11, 12, 13, 14, 15, 16, 1, 2, 3, 4, 5, 6, 7, 8] rfl rfl rfl rfl) 9 rfl ⟨rfl, rfl⟩ rfl rfl (Nat.le_of_ble_eq_true rfl) (fun H locs hP hD hS => ?_)
        replace hP : va_P D vwCl (cX a cI no u64_mi ke hk sg lz rn rs rf be fh oh) H := hP
        replace hD : va_D A (cX a cI no u64_mi ke hk sg lz rn rs rf be fh oh) := hD
        refine lv_aload_n hx hb dX3_breaker_67 rfl (lv_at hl 0 rfl) ?_
        refine va_get (D := D) (ci := 3) (v := .ref (a 9)) (C := RX3) (T := TX3) (N := 11) hx hb hts i3 hown hK hP 0 rfl rfl 1 (by decide) f16 (fun _ h9 => h9) rfl dX3_breaker_68 ?_
        refine va_get (D := D) (ci := 2) (v := .ref (a 16)) (C := RX2) (T := TX2) (N := 10) hx hb hts i2 hown hK hP 9 rfl rfl 6 (by decide) f114 (fun _ h9 => h9) rfl dX3_breaker_71 ?_
        refine lv_iload_n hx hb dX3_breaker_74 rfl (lv_at hl 1 rfl) ?_
        refine lv_iload hx hb dX3_breaker_75 (lv_at hl 4 rfl) ?_
        obtain ⟨g77, h⟩ := chk_inv h
        refine va_iast (n := 9) (f := (sBr u64_mi)) hx hb hK hP hD hS 16 0 rfl rfl g77 dX3_breaker_77 (fun H locs hP hD hS => ?_)
        replace hP : va_P D vwCl (cX a cI no (sUBr u64_mi (upd (sBr u64_mi) (Int32.toNatClampNeg x1) x4)) ke hk sg lz rn rs rf be fh oh) H := hP
        replace hD : va_D A (cX a cI no (sUBr u64_mi (upd (sBr u64_mi) (Int32.toNatClampNeg x1) x4)) ke hk sg lz rn rs rf be fh oh) := hD
        refine lv_aload_n hx hb dX3_breaker_78 rfl (lv_at hl 0 rfl) ?_
        refine lv_iload_n hx hb dX3_breaker_79 rfl (lv_at hl 1 rfl) ?_
        refine lv_iconst (v := 1) hx hb dX3_breaker_80 (by decide) ?_
        obtain ⟨r81, u81_mi, q81, h⟩ := bnd2_inv h
        refine kVI (n := 2) (As := [.int x1, .int (1 : Int32)]) (rest := []) CF hl hK hP hD hS hA (c_X3_daysUntil l D cI a no (sUBr u64_mi (upd (sBr u64_mi) (Int32.toNatClampNeg x1) x4)) ke hk sg lz rn rs rf be fh oh x1 (1 : Int32) r81 u81_mi q81) gX3_breaker_X3_daysUntil rfl dX3_breaker_81 (by decide +kernel) ⟨⟨rfl, rfl⟩, ⟨Nat.le_of_ble_eq_true rfl, Nat.le_of_ble_eq_true rfl⟩, Nat.zero_le _, Nat.zero_le _⟩ (JN.whole (w1 := (cX a cI no u81_mi ke hk sg lz rn rs rf be fh oh)) rfl) 0 rfl ⟨rfl, rfl⟩ rfl rfl (Nat.le_of_ble_eq_true rfl) (fun H locs hP hD hS => ?_)
        replace hP : va_P D vwCl (cX a cI no u81_mi ke hk sg lz rn rs rf be fh oh) H := hP
        replace hD : va_D A (cX a cI no u81_mi ke hk sg lz rn rs rf be fh oh) := hD
        refine lv_istore (lv' := [(5, .int r81), (0, .ref (a 0)), (1, .int x1), (2, .int x2), (3, .int x3), (4, .int x4)]) hx hb dX3_breaker_84 hl (by decide) rfl (fun ls hl => ?_)
        refine lv_iload hx hb dX3_breaker_86 (lv_at hl 0 rfl) ?_
        refine lv_bipush (v := (-9)) hx hb dX3_breaker_88 (by decide) ?_
        refine lv_icmp_eq (tgt := 105) hx hb dX3_breaker_90 (by decide) (fun c90 => ?_) (fun c90 => ?_)
        · replace h := fx_ite_t c90 h
          refine lv_iinc (v := (x4 + 1)) (lv' := [(4, .int (x4 + 1)), (5, .int r81), (0, .ref (a 0)), (1, .int x1), (2, .int x2), (3, .int x3)]) hx hb dX3_breaker_105 hl (k := 5) rfl (by first | rfl | decide) (by decide) rfl (fun ls hl => ?_)
          refine lv_goto (tgt := 44) hx hb dX3_breaker_108 (by decide) ?_
          exact ih _ _ _ _ _ _ h  _ _ _ hP hD hS (lv_sub hl [2, 3, 4, 5, 0] rfl)
        · replace h := fx_ite_f c90 h
          refine lv_iload hx hb dX3_breaker_93 (lv_at hl 0 rfl) ?_
          refine lv_iload_n hx hb dX3_breaker_95 rfl (lv_at hl 4 rfl) ?_
          refine lv_icmp_ge (tgt := 105) hx hb dX3_breaker_96 (by decide) (fun c96 => ?_) (fun c96 => ?_)
          · replace h := fx_ite_t c96 h
            refine lv_iinc (v := (x4 + 1)) (lv' := [(4, .int (x4 + 1)), (5, .int r81), (0, .ref (a 0)), (1, .int x1), (2, .int x2), (3, .int x3)]) hx hb dX3_breaker_105 hl (k := 5) rfl (by first | rfl | decide) (by decide) rfl (fun ls hl => ?_)
            refine lv_goto (tgt := 44) hx hb dX3_breaker_108 (by decide) ?_
            exact ih _ _ _ _ _ _ h  _ _ _ hP hD hS (lv_sub hl [2, 3, 4, 5, 0] rfl)
          · replace h := fx_ite_f c96 h
            refine lv_iload hx hb dX3_breaker_99 (lv_at hl 0 rfl) ?_
            refine lv_istore_n (lv' := [(3, .int r81), (5, .int r81), (0, .ref (a 0)), (1, .int x1), (2, .int x2), (4, .int x4)]) hx hb dX3_breaker_101 rfl hl (by decide) rfl (fun ls hl => ?_)
            refine lv_iload hx hb dX3_breaker_102 (lv_at hl 5 rfl) ?_
            refine lv_istore_n (lv' := [(2, .int x4), (3, .int r81), (5, .int r81), (0, .ref (a 0)), (1, .int x1), (4, .int x4)]) hx hb dX3_breaker_104 rfl hl (by decide) rfl (fun ls hl => ?_)
            refine lv_iinc (v := (x4 + 1)) (lv' := [(4, .int (x4 + 1)), (2, .int x4), (3, .int r81), (5, .int r81), (0, .ref (a 0)), (1, .int x1)]) hx hb dX3_breaker_105 hl (k := 5) rfl (by first | rfl | decide) (by decide) rfl (fun ls hl => ?_)
            refine lv_goto (tgt := 44) hx hb dX3_breaker_108 (by decide) ?_
            exact ih _ _ _ _ _ _ h  _ _ _ hP hD hS (lv_sub hl [4, 5, 1, 2, 0] rfl)
  unfold M_X3_breaker at h
  refine lv_aload_n hx hb dX3_breaker_0 rfl (lv_at hl 0 rfl) ?_
  refine va_get (D := D) (ci := 3) (v := .ref (a 1)) (C := RX3) (T := TX3) (N := 11) hx hb hts i3 hown hK hP 0 rfl rfl 0 (by decide) f10 (fun _ h9 => h9) rfl dX3_breaker_1 ?_
  refine lv_iload_n hx hb dX3_breaker_4 rfl (lv_at hl 1 rfl) ?_
  obtain ⟨r5, q5, h⟩ := bnd1_inv h
  refine kVI (n := 1) (As := [.int p1]) (rest := []) CF hl hK hP hD hS hA (c_X2_isThing l D cI (a 1) (a 2) (a 3) (a 4) (a 5) (a 6) (a 7) (a 8) no p1 r5 q5) gX3_breaker_X2_isThing rfl dX3_breaker_5 (by decide +kernel) ⟨⟨rfl, rfl⟩, ⟨Nat.le_of_ble_eq_true rfl, Nat.le_of_ble_eq_true rfl⟩, Nat.zero_le _, Nat.zero_le _⟩ (JN.ro [1, 2, 3, 4, 5, 6, 7, 8] rfl rfl) 1 rfl ⟨rfl, rfl⟩ rfl rfl (Nat.le_of_ble_eq_true rfl) (fun H locs hP hD hS => ?_)
  refine lv_if_ne (tgt := 17) hx hb dX3_breaker_8 (by decide) (fun c8 => ?_) (fun c8 => ?_)
  · replace h := fx_ite_f c8 h
    refine lv_aload_n hx hb dX3_breaker_17 rfl (lv_at hl 0 rfl) ?_
    refine va_get (D := D) (ci := 3) (v := .ref (a 1)) (C := RX3) (T := TX3) (N := 11) hx hb hts i3 hown hK hP 0 rfl rfl 0 (by decide) f10 (fun _ h9 => h9) rfl dX3_breaker_18 ?_
    refine lv_iload_n hx hb dX3_breaker_21 rfl (lv_at hl 1 rfl) ?_
    obtain ⟨r22, q22, h⟩ := bnd1_inv h
    refine kVI (n := 1) (As := [.int p1]) (rest := []) CF hl hK hP hD hS hA (c_X2_isWhole l D cI (a 1) (a 2) (a 3) (a 4) (a 5) (a 6) (a 7) (a 8) no p1 r22 q22) gX3_breaker_X2_isWhole rfl dX3_breaker_22 (by decide +kernel) ⟨⟨rfl, rfl⟩, ⟨Nat.le_of_ble_eq_true rfl, Nat.le_of_ble_eq_true rfl⟩, Nat.zero_le _, Nat.zero_le _⟩ (JN.ro [1, 2, 3, 4, 5, 6, 7, 8] rfl rfl) 1 rfl ⟨rfl, rfl⟩ rfl rfl (Nat.le_of_ble_eq_true rfl) (fun H locs hP hD hS => ?_)
    refine lv_if_ne (tgt := 35) hx hb dX3_breaker_25 (by decide) (fun c25 => ?_) (fun c25 => ?_)
    · replace h := fx_ite_f c25 h
      refine lv_bipush (v := (-9)) hx hb dX3_breaker_35 (by decide) ?_
      refine lv_istore_n (lv' := [(2, .int (-9 : Int32)), (0, .ref (a 0)), (1, .int p1)]) hx hb dX3_breaker_37 rfl hl (by decide) rfl (fun ls hl => ?_)
      refine lv_bipush (v := 100) hx hb dX3_breaker_38 (by decide) ?_
      refine lv_istore_n (lv' := [(3, .int (100 : Int32)), (2, .int (-9 : Int32)), (0, .ref (a 0)), (1, .int p1)]) hx hb dX3_breaker_40 rfl hl (by decide) rfl (fun ls hl => ?_)
      refine lv_iconst (v := 0) hx hb dX3_breaker_41 (by decide) ?_
      refine lv_istore (lv' := [(4, .int (0 : Int32)), (3, .int (100 : Int32)), (2, .int (-9 : Int32)), (0, .ref (a 0)), (1, .int p1)]) hx hb dX3_breaker_42 hl (by decide) rfl (fun ls hl => ?_)
      exact L44 FU _ _ _ _ _ _ h  _ _ _ hP hD hS (lv_sub hl [3, 4, 2, 1, 0] rfl)
    · replace h := fx_ite_t c25 h
      refine lv_aload_n hx hb dX3_breaker_28 rfl (lv_at hl 0 rfl) ?_
      refine lv_bipush (v := (-3)) hx hb dX3_breaker_29 (by decide) ?_
      obtain ⟨r31, u31_rf, q31, h⟩ := bnd2_inv h
      refine kVI (n := 1) (As := [.int (-3 : Int32)]) (rest := []) CF hl hK hP hD hS hA (c_X3_refuse l D cI a no mi ke hk sg lz rn rs rf be fh oh (-3 : Int32) r31 u31_rf q31) gX3_breaker_X3_refuse rfl dX3_breaker_31 (by decide +kernel) ⟨⟨rfl, rfl⟩, ⟨Nat.le_of_ble_eq_true rfl, Nat.le_of_ble_eq_true rfl⟩, Nat.zero_le _, Nat.zero_le _⟩ (JN.whole (w1 := (cX a cI no mi ke hk sg lz rn rs u31_rf be fh oh)) rfl) 0 rfl ⟨rfl, rfl⟩ rfl rfl (Nat.le_of_ble_eq_true rfl) (fun H locs hP hD hS => ?_)
      replace hP : va_P D vwCl (cX a cI no mi ke hk sg lz rn rs u31_rf be fh oh) H := hP
      replace hD : va_D A (cX a cI no mi ke hk sg lz rn rs u31_rf be fh oh) := hD
      obtain ⟨rfl, rfl, rfl⟩ := ret3 h
      exact rI hQ hx hb hr hlocks hAe hP hS rfl rfl dX3_breaker_34
  · replace h := fx_ite_t c8 h
    refine lv_aload_n hx hb dX3_breaker_11 rfl (lv_at hl 0 rfl) ?_
    refine lv_iconst (v := (-1)) hx hb dX3_breaker_12 (by decide) ?_
    obtain ⟨r13, u13_rf, q13, h⟩ := bnd2_inv h
    refine kVI (n := 1) (As := [.int (-1 : Int32)]) (rest := []) CF hl hK hP hD hS hA (c_X3_refuse l D cI a no mi ke hk sg lz rn rs rf be fh oh (-1 : Int32) r13 u13_rf q13) gX3_breaker_X3_refuse rfl dX3_breaker_13 (by decide +kernel) ⟨⟨rfl, rfl⟩, ⟨Nat.le_of_ble_eq_true rfl, Nat.le_of_ble_eq_true rfl⟩, Nat.zero_le _, Nat.zero_le _⟩ (JN.whole (w1 := (cX a cI no mi ke hk sg lz rn rs u13_rf be fh oh)) rfl) 0 rfl ⟨rfl, rfl⟩ rfl rfl (Nat.le_of_ble_eq_true rfl) (fun H locs hP hD hS => ?_)
    replace hP : va_P D vwCl (cX a cI no mi ke hk sg lz rn rs u13_rf be fh oh) H := hP
    replace hD : va_D A (cX a cI no mi ke hk sg lz rn rs u13_rf be fh oh) := hD
    obtain ⟨rfl, rfl, rfl⟩ := ret3 h
    exact rI hQ hx hb hr hlocks hAe hP hS rfl rfl dX3_breaker_16
