/-! X3_refuse -/
set_option maxHeartbeats 4000000 in
set_option maxRecDepth 100000 in
theorem c_X3_refuse (l : Launch) (D : va_G) (cI : ClassId) (a : Nat → Nat) (no : SV) (mi : SV) (ke : SV) (hk : Int32) (sg : (Nat → Int32)) (lz : Int32) (rn : (Nat → Int32)) (rs : Int32) (rf : (Nat → Int32)) (be : (Nat → Int32)) (fh : (Nat → Int32)) (oh : (Nat → Int32)) (p1 : Int32) (res : Int32) (u_rf : (Nat → Int32)) (h : M_X3_refuse rf p1 = some (res, u_rf)) : mI l yX3_refuse wsX3_refuse { frames := 0, cells := 0, slots := 0, locals := 0 } D cI [.ref (a 0), .int p1] (cX a cI no mi ke hk sg lz rn rs rf be fh oh) (cX a cI no mi ke hk sg lz rn rs u_rf be fh oh) res := by
  intro sz
  refine mStart (cc := cX3_refuse) (maxL := 2) (ret := (some .int)) (own := RX3) (by decide) rfl rfl (Nat.le_of_ble_eq_true rfl) (lv := [(0, .ref (a 0)), (1, .int p1)]) rfl ?_
  intro p e s m args below meth c A ls Q H locs CF hr hlocks hK hP hD hS hA hAe hl hQ
  obtain ⟨hx, hb, hml, hown, hts⟩ := id CF
  have f41 := hts (.fieldLink RX3 41 "MendAnothersBreaking" "refusals" "[I") (List.mem_of_getElem? (i := 1) rfl)
  have i3 : ∀ w ∈ wsX30, w ∈ wsX3_refuse := fun w h => List.mem_cons_of_mem _ (List.mem_append_right _ h)
  unfold M_X3_refuse at h
  refine lv_iload_n hx hb dX3_refuse_0 rfl (lv_at hl 1 rfl) ?_
  refine lv_if_ge (tgt := 21) hx hb dX3_refuse_1 (by decide) (fun c1 => ?_) (fun c1 => ?_)
  · replace h := fx_ite_t c1 h
    refine lv_iload_n hx hb dX3_refuse_21 rfl (lv_at hl 1 rfl) ?_
    obtain ⟨rfl, rfl⟩ := ret2 h
    exact rI hQ hx hb hr hlocks hAe hP hS rfl rfl dX3_refuse_22
  · replace h := fx_ite_f c1 h
    refine lv_iload_n hx hb dX3_refuse_4 rfl (lv_at hl 1 rfl) ?_
    refine lv_bipush (v := (-6)) hx hb dX3_refuse_5 (by decide) ?_
    refine lv_icmp_lt (tgt := 21) hx hb dX3_refuse_7 (by decide) (fun c7 => ?_) (fun c7 => ?_)
    · replace h := fx_ite_t c7 h
      refine lv_iload_n hx hb dX3_refuse_21 rfl (lv_at hl 1 rfl) ?_
      obtain ⟨rfl, rfl⟩ := ret2 h
      exact rI hQ hx hb hr hlocks hAe hP hS rfl rfl dX3_refuse_22
    · replace h := fx_ite_f c7 h
      refine lv_aload_n hx hb dX3_refuse_10 rfl (lv_at hl 0 rfl) ?_
      refine va_get (D := D) (ci := 3) (v := .ref (a 28)) (C := RX3) (T := TX3) (N := 11) hx hb hts i3 hown hK hP 0 rfl rfl 7 (by decide) f41 (fun _ h9 => h9) rfl dX3_refuse_11 ?_
      refine lv_iload_n hx hb dX3_refuse_14 rfl (lv_at hl 1 rfl) ?_
      refine lv_ineg hx hb dX3_refuse_15 ?_
      refine lv_dup2_11 hx hb dX3_refuse_16 rfl rfl ?_
      obtain ⟨g17, h⟩ := chk_inv h
      refine va_iald (n := 7) (f := rf) hx hb hK hP 28 0 rfl rfl g17 dX3_refuse_17 ?_
      refine lv_iconst (v := 1) hx hb dX3_refuse_18 (by decide) ?_
      refine lv_iadd hx hb dX3_refuse_19 ?_
      obtain ⟨g20, h⟩ := chk_inv h
      refine va_iast (n := 7) (f := rf) hx hb hK hP hD hS 28 0 rfl rfl g20 dX3_refuse_20 (fun H locs hP hD hS => ?_)
      replace hP : va_P D vwCl (cX a cI no mi ke hk sg lz rn rs (upd rf (Int32.toNatClampNeg (-p1)) ((rf (Int32.toNatClampNeg (-p1))) + (1 : Int32))) be fh oh) H := hP
      replace hD : va_D A (cX a cI no mi ke hk sg lz rn rs (upd rf (Int32.toNatClampNeg (-p1)) ((rf (Int32.toNatClampNeg (-p1))) + (1 : Int32))) be fh oh) := hD
      refine lv_iload_n hx hb dX3_refuse_21 rfl (lv_at hl 1 rfl) ?_
      obtain ⟨rfl, rfl⟩ := ret2 h
      exact rI hQ hx hb hr hlocks hAe hP hS rfl rfl dX3_refuse_22
/-! X3_letter -/
set_option maxHeartbeats 4000000 in
set_option maxRecDepth 100000 in
theorem c_X3_letter (l : Launch) (D : va_G) (cI : ClassId) (a : Nat → Nat) (no : SV) (mi : SV) (ke : SV) (hk : Int32) (sg : (Nat → Int32)) (lz : Int32) (rn : (Nat → Int32)) (rs : Int32) (rf : (Nat → Int32)) (be : (Nat → Int32)) (fh : (Nat → Int32)) (oh : (Nat → Int32)) (p1 : Int32) (res : Int32) (u_sg : (Nat → Int32)) (u_lz : Int32) (u_rf : (Nat → Int32)) (h : M_X3_letter sg lz rf p1 = some (res, u_sg, u_lz, u_rf)) : mI l yX3_letter wsX3_letter { frames := 2, cells := 0, slots := 0, locals := 41 } D cI [.ref (a 0), .int p1] (cX a cI no mi ke hk sg lz rn rs rf be fh oh) (cX a cI no mi ke hk u_sg u_lz rn rs u_rf be fh oh) res := by
  intro sz
  refine mStart (cc := cX3_letter) (maxL := 2) (ret := (some .int)) (own := RX3) (by decide) rfl rfl (Nat.le_of_ble_eq_true rfl) (lv := [(0, .ref (a 0)), (1, .int p1)]) rfl ?_
  intro p e s m args below meth c A ls Q H locs CF hr hlocks hK hP hD hS hA hAe hl hQ
  obtain ⟨hx, hb, hml, hown, hts⟩ := id CF
  have f29 := hts (.fieldLink RX3 29 "MendAnothersBreaking" "told" "LMendAnothersBreaking$Letters;") (List.mem_of_getElem? (i := 1) rfl)
  have i3 : ∀ w ∈ wsX30, w ∈ wsX3_letter := fun w h => List.mem_cons_of_mem _ (List.mem_append_left _ (List.mem_append_right _ h))
  unfold M_X3_letter at h
  refine lv_iload_n hx hb dX3_letter_0 rfl (lv_at hl 1 rfl) ?_
  refine lv_if_ge (tgt := 11) hx hb dX3_letter_1 (by decide) (fun c1 => ?_) (fun c1 => ?_)
  · replace h := fx_ite_t c1 h
    refine lv_iload_n hx hb dX3_letter_11 rfl (lv_at hl 1 rfl) ?_
    refine lv_sipush (v := 255) hx hb dX3_letter_12 (by decide) ?_
    refine lv_icmp_gt (tgt := 28) hx hb dX3_letter_15 (by decide) (fun c15 => ?_) (fun c15 => ?_)
    · replace h := fx_ite_t c15 h
      refine lv_aload_n hx hb dX3_letter_28 rfl (lv_at hl 0 rfl) ?_
      refine lv_bipush (v := (-6)) hx hb dX3_letter_29 (by decide) ?_
      obtain ⟨r31, u31_rf, q31, h⟩ := bnd2_inv h
      refine kVI (n := 1) (As := [.int (-6 : Int32)]) (rest := []) CF hl hK hP hD hS hA (c_X3_refuse l D cI a no mi ke hk sg lz rn rs rf be fh oh (-6 : Int32) r31 u31_rf q31) gX3_letter_X3_refuse rfl dX3_letter_31 (by decide +kernel) ⟨⟨rfl, rfl⟩, ⟨Nat.le_of_ble_eq_true rfl, Nat.le_of_ble_eq_true rfl⟩, Nat.zero_le _, Nat.zero_le _⟩ (JN.whole (w1 := (cX a cI no mi ke hk sg lz rn rs u31_rf be fh oh)) rfl) 0 rfl ⟨rfl, rfl⟩ rfl rfl (Nat.le_of_ble_eq_true rfl) (fun H locs hP hD hS => ?_)
      replace hP : va_P D vwCl (cX a cI no mi ke hk sg lz rn rs u31_rf be fh oh) H := hP
      replace hD : va_D A (cX a cI no mi ke hk sg lz rn rs u31_rf be fh oh) := hD
      obtain ⟨rfl, rfl, rfl, rfl⟩ := ret4 h
      exact rI hQ hx hb hr hlocks hAe hP hS rfl rfl dX3_letter_34
    · replace h := fx_ite_f c15 h
      refine lv_aload_n hx hb dX3_letter_18 rfl (lv_at hl 0 rfl) ?_
      refine va_get (D := D) (ci := 3) (v := .ref (a 25)) (C := RX3) (T := TX3) (N := 11) hx hb hts i3 hown hK hP 0 rfl rfl 4 (by decide) f29 (fun _ h9 => h9) rfl dX3_letter_19 ?_
      obtain ⟨r22, q22, h⟩ := bnd1_inv h
      refine kVI (n := 0) (As := []) (rest := []) CF hl hK hP hD hS hA (c_X0_hasRoom l D cI (a 25) (a 26) sg lz  r22 q22) gX3_letter_X0_hasRoom rfl dX3_letter_22 (by decide +kernel) ⟨⟨rfl, rfl⟩, ⟨Nat.le_of_ble_eq_true rfl, Nat.le_of_ble_eq_true rfl⟩, Nat.zero_le _, Nat.zero_le _⟩ (JN.ro [25, 26] rfl rfl) 25 rfl ⟨rfl, rfl⟩ rfl rfl (Nat.le_of_ble_eq_true rfl) (fun H locs hP hD hS => ?_)
      refine lv_if_ne (tgt := 35) hx hb dX3_letter_25 (by decide) (fun c25 => ?_) (fun c25 => ?_)
      · replace h := fx_ite_f c25 h
        refine lv_aload_n hx hb dX3_letter_35 rfl (lv_at hl 0 rfl) ?_
        refine va_get (D := D) (ci := 3) (v := .ref (a 25)) (C := RX3) (T := TX3) (N := 11) hx hb hts i3 hown hK hP 0 rfl rfl 4 (by decide) f29 (fun _ h9 => h9) rfl dX3_letter_36 ?_
        refine lv_iload_n hx hb dX3_letter_39 rfl (lv_at hl 1 rfl) ?_
        obtain ⟨r40, u40_sg, u40_lz, q40, h⟩ := bnd3_inv h
        refine kVI (n := 1) (As := [.int p1]) (rest := []) CF hl hK hP hD hS hA (c_X0_take l D cI (a 25) (a 26) sg lz p1 r40 u40_sg u40_lz q40) gX3_letter_X0_take rfl dX3_letter_40 (by decide +kernel) ⟨⟨rfl, rfl⟩, ⟨Nat.le_of_ble_eq_true rfl, Nat.le_of_ble_eq_true rfl⟩, Nat.zero_le _, Nat.zero_le _⟩ (JN.sub (wst' := (cX a cI no mi ke hk u40_sg u40_lz rn rs rf be fh oh)) [25, 26] rfl rfl rfl rfl) 25 rfl ⟨rfl, rfl⟩ rfl rfl (Nat.le_of_ble_eq_true rfl) (fun H locs hP hD hS => ?_)
        replace hP : va_P D vwCl (cX a cI no mi ke hk u40_sg u40_lz rn rs rf be fh oh) H := hP
        replace hD : va_D A (cX a cI no mi ke hk u40_sg u40_lz rn rs rf be fh oh) := hD
        obtain ⟨rfl, rfl, rfl, rfl⟩ := ret4 h
        exact rI hQ hx hb hr hlocks hAe hP hS rfl rfl dX3_letter_43
      · replace h := fx_ite_t c25 h
        refine lv_aload_n hx hb dX3_letter_28 rfl (lv_at hl 0 rfl) ?_
        refine lv_bipush (v := (-6)) hx hb dX3_letter_29 (by decide) ?_
        obtain ⟨r31, u31_rf, q31, h⟩ := bnd2_inv h
        refine kVI (n := 1) (As := [.int (-6 : Int32)]) (rest := []) CF hl hK hP hD hS hA (c_X3_refuse l D cI a no mi ke hk sg lz rn rs rf be fh oh (-6 : Int32) r31 u31_rf q31) gX3_letter_X3_refuse rfl dX3_letter_31 (by decide +kernel) ⟨⟨rfl, rfl⟩, ⟨Nat.le_of_ble_eq_true rfl, Nat.le_of_ble_eq_true rfl⟩, Nat.zero_le _, Nat.zero_le _⟩ (JN.whole (w1 := (cX a cI no mi ke hk sg lz rn rs u31_rf be fh oh)) rfl) 0 rfl ⟨rfl, rfl⟩ rfl rfl (Nat.le_of_ble_eq_true rfl) (fun H locs hP hD hS => ?_)
        replace hP : va_P D vwCl (cX a cI no mi ke hk sg lz rn rs u31_rf be fh oh) H := hP
        replace hD : va_D A (cX a cI no mi ke hk sg lz rn rs u31_rf be fh oh) := hD
        obtain ⟨rfl, rfl, rfl, rfl⟩ := ret4 h
        exact rI hQ hx hb hr hlocks hAe hP hS rfl rfl dX3_letter_34
  · replace h := fx_ite_f c1 h
    refine lv_aload_n hx hb dX3_letter_4 rfl (lv_at hl 0 rfl) ?_
    refine lv_bipush (v := (-4)) hx hb dX3_letter_5 (by decide) ?_
    obtain ⟨r7, u7_rf, q7, h⟩ := bnd2_inv h
    refine kVI (n := 1) (As := [.int (-4 : Int32)]) (rest := []) CF hl hK hP hD hS hA (c_X3_refuse l D cI a no mi ke hk sg lz rn rs rf be fh oh (-4 : Int32) r7 u7_rf q7) gX3_letter_X3_refuse rfl dX3_letter_7 (by decide +kernel) ⟨⟨rfl, rfl⟩, ⟨Nat.le_of_ble_eq_true rfl, Nat.le_of_ble_eq_true rfl⟩, Nat.zero_le _, Nat.zero_le _⟩ (JN.whole (w1 := (cX a cI no mi ke hk sg lz rn rs u7_rf be fh oh)) rfl) 0 rfl ⟨rfl, rfl⟩ rfl rfl (Nat.le_of_ble_eq_true rfl) (fun H locs hP hD hS => ?_)
    replace hP : va_P D vwCl (cX a cI no mi ke hk sg lz rn rs u7_rf be fh oh) H := hP
    replace hD : va_D A (cX a cI no mi ke hk sg lz rn rs u7_rf be fh oh) := hD
    obtain ⟨rfl, rfl, rfl, rfl⟩ := ret4 h
    exact rI hQ hx hb hr hlocks hAe hP hS rfl rfl dX3_letter_10
/-! X3_lane -/
set_option maxHeartbeats 4000000 in
set_option maxRecDepth 100000 in
theorem c_X3_lane (l : Launch) (D : va_G) (cI : ClassId) (a : Nat → Nat) (no : SV) (mi : SV) (ke : SV) (hk : Int32) (sg : (Nat → Int32)) (lz : Int32) (rn : (Nat → Int32)) (rs : Int32) (rf : (Nat → Int32)) (be : (Nat → Int32)) (fh : (Nat → Int32)) (oh : (Nat → Int32))  (res : Int32) (u_no : SV) (u_mi : SV) (u_lz : Int32) (h : M_X3_lane no mi sg lz = some (res, u_no, u_mi, u_lz)) : mI l yX3_lane wsX3_lane { frames := 7, cells := 0, slots := 0, locals := 163 } D cI [.ref (a 0)] (cX a cI no mi ke hk sg lz rn rs rf be fh oh) (cX a cI u_no u_mi ke hk sg u_lz rn rs rf be fh oh) res := by
  intro sz
  refine mStart (cc := cX3_lane) (maxL := 3) (ret := (some .int)) (own := RX3) (by decide) rfl rfl (Nat.le_of_ble_eq_true rfl) (lv := [(0, .ref (a 0))]) rfl ?_
  intro p e s m args below meth c A ls Q H locs CF hr hlocks hK hP hD hS hA hAe hl hQ
  obtain ⟨hx, hb, hml, hown, hts⟩ := id CF
  have f10 := hts (.fieldLink RX3 10 "MendAnothersBreaking" "now" "LMendAnothersBreaking$State;") (List.mem_of_getElem? (i := 2) rfl)
  have f16 := hts (.fieldLink RX3 16 "MendAnothersBreaking" "mind" "LMendAnothersBreaking$State;") (List.mem_of_getElem? (i := 1) rfl)
  have f29 := hts (.fieldLink RX3 29 "MendAnothersBreaking" "told" "LMendAnothersBreaking$Letters;") (List.mem_of_getElem? (i := 3) rfl)
  have i3 : ∀ w ∈ wsX30, w ∈ wsX3_lane := fun w h => List.mem_cons_of_mem _ (List.mem_append_left _ (List.mem_append_left _ (List.mem_append_right _ h)))
  unfold M_X3_lane at h
  refine lv_aload_n hx hb dX3_lane_0 rfl (lv_at hl 0 rfl) ?_
  refine va_get (D := D) (ci := 3) (v := .ref (a 9)) (C := RX3) (T := TX3) (N := 11) hx hb hts i3 hown hK hP 0 rfl rfl 1 (by decide) f16 (fun _ h9 => h9) rfl dX3_lane_1 ?_
  refine lv_aload_n hx hb dX3_lane_4 rfl (lv_at hl 0 rfl) ?_
  refine va_get (D := D) (ci := 3) (v := .ref (a 1)) (C := RX3) (T := TX3) (N := 11) hx hb hts i3 hown hK hP 0 rfl rfl 0 (by decide) f10 (fun _ h9 => h9) rfl dX3_lane_5 ?_
  obtain ⟨u8_mi, q8, h⟩ := bnd1_inv h
  refine kVV (n := 1) (As := [.ref (a 1)]) (rest := []) CF hl hK hP hD hS hA (c_X2_become l D cI (a 9) (a 10) (a 11) (a 12) (a 13) (a 14) (a 15) (a 16) (a 1) (a 2) (a 3) (a 4) (a 5) (a 6) (a 7) (a 8) mi no  u8_mi q8) gX3_lane_X2_become rfl dX3_lane_8 (by decide +kernel) ⟨⟨rfl, rfl⟩, ⟨Nat.le_of_ble_eq_true rfl, Nat.le_of_ble_eq_true rfl⟩, Nat.zero_le _, Nat.zero_le _⟩ (JN.sub (wst' := (cX a cI no u8_mi ke hk sg lz rn rs rf be fh oh)) [9, 10, 11, 12, 13, 14, 15, 16, 1, 2, 3, 4, 5, 6, 7, 8] rfl rfl rfl rfl) 9 rfl ⟨rfl, rfl⟩ rfl rfl (Nat.le_of_ble_eq_true rfl) (fun H locs hP hD hS => ?_)
  replace hP : va_P D vwCl (cX a cI no u8_mi ke hk sg lz rn rs rf be fh oh) H := hP
  replace hD : va_D A (cX a cI no u8_mi ke hk sg lz rn rs rf be fh oh) := hD
  refine lv_aload_n hx hb dX3_lane_11 rfl (lv_at hl 0 rfl) ?_
  refine va_get (D := D) (ci := 3) (v := .ref (a 25)) (C := RX3) (T := TX3) (N := 11) hx hb hts i3 hown hK hP 0 rfl rfl 4 (by decide) f29 (fun _ h9 => h9) rfl dX3_lane_12 ?_
  obtain ⟨r15, q15, h⟩ := bnd1_inv h
  refine kVI (n := 0) (As := []) (rest := []) CF hl hK hP hD hS hA (c_X0_formFault l D cI (a 25) (a 26) sg lz  r15 q15) gX3_lane_X0_formFault rfl dX3_lane_15 (by decide +kernel) ⟨⟨rfl, rfl⟩, ⟨Nat.le_of_ble_eq_true rfl, Nat.le_of_ble_eq_true rfl⟩, Nat.zero_le _, Nat.zero_le _⟩ (JN.ro [25, 26] rfl rfl) 25 rfl ⟨rfl, rfl⟩ rfl rfl (Nat.le_of_ble_eq_true rfl) (fun H locs hP hD hS => ?_)
  refine lv_istore_n (lv' := [(1, .int r15), (0, .ref (a 0))]) hx hb dX3_lane_18 rfl hl (by decide) rfl (fun ls hl => ?_)
  refine lv_iload_n hx hb dX3_lane_19 rfl (lv_at hl 0 rfl) ?_
  refine lv_bipush (v := (-9)) hx hb dX3_lane_20 (by decide) ?_
  refine lv_icmp_ne (tgt := 39) hx hb dX3_lane_22 (by decide) (fun c22 => ?_) (fun c22 => ?_)
  · replace h := fx_ite_f c22 h
    refine lv_sipush (v := (-1000)) hx hb dX3_lane_39 (by decide) ?_
    refine lv_iload_n hx hb dX3_lane_42 rfl (lv_at hl 0 rfl) ?_
    refine lv_isub hx hb dX3_lane_43 ?_
    refine lv_istore_n (lv' := [(2, .int ((-1000 : Int32) - r15)), (1, .int r15), (0, .ref (a 0))]) hx hb dX3_lane_44 rfl hl (by decide) rfl (fun ls hl => ?_)
    refine lv_iload_n hx hb dX3_lane_45 rfl (lv_at hl 0 rfl) ?_
    refine lv_if_le (tgt := 60) hx hb dX3_lane_46 (by decide) (fun c46 => ?_) (fun c46 => ?_)
    · replace h := fx_ite_t c46 h
      refine lv_aload_n hx hb dX3_lane_60 rfl (lv_at hl 2 rfl) ?_
      refine va_get (D := D) (ci := 3) (v := .ref (a 25)) (C := RX3) (T := TX3) (N := 11) hx hb hts i3 hown hK hP 0 rfl rfl 4 (by decide) f29 (fun _ h9 => h9) rfl dX3_lane_61 ?_
      obtain ⟨u64_lz, q64, h⟩ := bnd1_inv h
      refine kVV (n := 0) (As := []) (rest := []) CF hl hK hP hD hS hA (c_X0_forget l D cI (a 25) (a 26) sg lz  u64_lz q64) gX3_lane_X0_forget rfl dX3_lane_64 (by decide +kernel) ⟨⟨rfl, rfl⟩, ⟨Nat.le_of_ble_eq_true rfl, Nat.le_of_ble_eq_true rfl⟩, Nat.zero_le _, Nat.zero_le _⟩ (JN.sub (wst' := (cX a cI no u8_mi ke hk sg u64_lz rn rs rf be fh oh)) [25, 26] rfl rfl rfl rfl) 25 rfl ⟨rfl, rfl⟩ rfl rfl (Nat.le_of_ble_eq_true rfl) (fun H locs hP hD hS => ?_)
      replace hP : va_P D vwCl (cX a cI no u8_mi ke hk sg u64_lz rn rs rf be fh oh) H := hP
      replace hD : va_D A (cX a cI no u8_mi ke hk sg u64_lz rn rs rf be fh oh) := hD
      refine lv_iload_n hx hb dX3_lane_67 rfl (lv_at hl 0 rfl) ?_
      obtain ⟨rfl, rfl, rfl, rfl⟩ := ret4 h
      exact rI hQ hx hb hr hlocks hAe hP hS rfl rfl dX3_lane_68
    · replace h := fx_ite_f c46 h
      refine lv_aload_n hx hb dX3_lane_49 rfl (lv_at hl 2 rfl) ?_
      refine va_get (D := D) (ci := 3) (v := .ref (a 1)) (C := RX3) (T := TX3) (N := 11) hx hb hts i3 hown hK hP 0 rfl rfl 0 (by decide) f10 (fun _ h9 => h9) rfl dX3_lane_50 ?_
      refine lv_aload_n hx hb dX3_lane_53 rfl (lv_at hl 2 rfl) ?_
      refine va_get (D := D) (ci := 3) (v := .ref (a 9)) (C := RX3) (T := TX3) (N := 11) hx hb hts i3 hown hK hP 0 rfl rfl 1 (by decide) f16 (fun _ h9 => h9) rfl dX3_lane_54 ?_
      obtain ⟨u57_no, q57, h⟩ := bnd1_inv h
      refine kVV (n := 1) (As := [.ref (a 9)]) (rest := []) CF hl hK hP hD hS hA (c_X2_become l D cI (a 1) (a 2) (a 3) (a 4) (a 5) (a 6) (a 7) (a 8) (a 9) (a 10) (a 11) (a 12) (a 13) (a 14) (a 15) (a 16) no u8_mi  u57_no q57) gX3_lane_X2_become rfl dX3_lane_57 (by decide +kernel) ⟨⟨rfl, rfl⟩, ⟨Nat.le_of_ble_eq_true rfl, Nat.le_of_ble_eq_true rfl⟩, Nat.zero_le _, Nat.zero_le _⟩ (JN.sub (wst' := (cX a cI u57_no u8_mi ke hk sg lz rn rs rf be fh oh)) [1, 2, 3, 4, 5, 6, 7, 8, 9, 10, 11, 12, 13, 14, 15, 16] rfl rfl rfl rfl) 1 rfl ⟨rfl, rfl⟩ rfl rfl (Nat.le_of_ble_eq_true rfl) (fun H locs hP hD hS => ?_)
      replace hP : va_P D vwCl (cX a cI u57_no u8_mi ke hk sg lz rn rs rf be fh oh) H := hP
      replace hD : va_D A (cX a cI u57_no u8_mi ke hk sg lz rn rs rf be fh oh) := hD
      refine lv_aload_n hx hb dX3_lane_60 rfl (lv_at hl 2 rfl) ?_
      refine va_get (D := D) (ci := 3) (v := .ref (a 25)) (C := RX3) (T := TX3) (N := 11) hx hb hts i3 hown hK hP 0 rfl rfl 4 (by decide) f29 (fun _ h9 => h9) rfl dX3_lane_61 ?_
      obtain ⟨u64_lz, q64, h⟩ := bnd1_inv h
      refine kVV (n := 0) (As := []) (rest := []) CF hl hK hP hD hS hA (c_X0_forget l D cI (a 25) (a 26) sg lz  u64_lz q64) gX3_lane_X0_forget rfl dX3_lane_64 (by decide +kernel) ⟨⟨rfl, rfl⟩, ⟨Nat.le_of_ble_eq_true rfl, Nat.le_of_ble_eq_true rfl⟩, Nat.zero_le _, Nat.zero_le _⟩ (JN.sub (wst' := (cX a cI u57_no u8_mi ke hk sg u64_lz rn rs rf be fh oh)) [25, 26] rfl rfl rfl rfl) 25 rfl ⟨rfl, rfl⟩ rfl rfl (Nat.le_of_ble_eq_true rfl) (fun H locs hP hD hS => ?_)
      replace hP : va_P D vwCl (cX a cI u57_no u8_mi ke hk sg u64_lz rn rs rf be fh oh) H := hP
      replace hD : va_D A (cX a cI u57_no u8_mi ke hk sg u64_lz rn rs rf be fh oh) := hD
      refine lv_iload_n hx hb dX3_lane_67 rfl (lv_at hl 0 rfl) ?_
      obtain ⟨rfl, rfl, rfl, rfl⟩ := ret4 h
      exact rI hQ hx hb hr hlocks hAe hP hS rfl rfl dX3_lane_68
  · replace h := fx_ite_t c22 h
    refine lv_aload_n hx hb dX3_lane_25 rfl (lv_at hl 1 rfl) ?_
    refine va_get (D := D) (ci := 3) (v := .ref (a 25)) (C := RX3) (T := TX3) (N := 11) hx hb hts i3 hown hK hP 0 rfl rfl 4 (by decide) f29 (fun _ h9 => h9) rfl dX3_lane_26 ?_
    refine lv_aload_n hx hb dX3_lane_29 rfl (lv_at hl 1 rfl) ?_
    refine va_get (D := D) (ci := 3) (v := .ref (a 9)) (C := RX3) (T := TX3) (N := 11) hx hb hts i3 hown hK hP 0 rfl rfl 1 (by decide) f16 (fun _ h9 => h9) rfl dX3_lane_30 ?_
    obtain ⟨r33, u33_mi, q33, h⟩ := bnd2_inv h
    refine kVI (n := 1) (As := [.ref (a 9)]) (rest := []) CF hl hK hP hD hS hA (c_X0_tellTo l D cI (a 25) (a 26) (a 9) (a 10) (a 11) (a 12) (a 13) (a 14) (a 15) (a 16) sg lz u8_mi  r33 u33_mi q33) gX3_lane_X0_tellTo rfl dX3_lane_33 (by decide +kernel) ⟨⟨rfl, rfl⟩, ⟨Nat.le_of_ble_eq_true rfl, Nat.le_of_ble_eq_true rfl⟩, Nat.zero_le _, Nat.zero_le _⟩ (JN.sub (wst' := (cX a cI no u33_mi ke hk sg lz rn rs rf be fh oh)) [25, 26, 9, 10, 11, 12, 13, 14, 15, 16] rfl rfl rfl rfl) 25 rfl ⟨rfl, rfl⟩ rfl rfl (Nat.le_of_ble_eq_true rfl) (fun H locs hP hD hS => ?_)
    replace hP : va_P D vwCl (cX a cI no u33_mi ke hk sg lz rn rs rf be fh oh) H := hP
    replace hD : va_D A (cX a cI no u33_mi ke hk sg lz rn rs rf be fh oh) := hD
    refine lv_goto (tgt := 44) hx hb dX3_lane_36 (by decide) ?_
    refine lv_istore_n (lv' := [(2, .int r33), (1, .int r15), (0, .ref (a 0))]) hx hb dX3_lane_44 rfl hl (by decide) rfl (fun ls hl => ?_)
    refine lv_iload_n hx hb dX3_lane_45 rfl (lv_at hl 0 rfl) ?_
    refine lv_if_le (tgt := 60) hx hb dX3_lane_46 (by decide) (fun c46 => ?_) (fun c46 => ?_)
    · replace h := fx_ite_t c46 h
      refine lv_aload_n hx hb dX3_lane_60 rfl (lv_at hl 2 rfl) ?_
      refine va_get (D := D) (ci := 3) (v := .ref (a 25)) (C := RX3) (T := TX3) (N := 11) hx hb hts i3 hown hK hP 0 rfl rfl 4 (by decide) f29 (fun _ h9 => h9) rfl dX3_lane_61 ?_
      obtain ⟨u64_lz, q64, h⟩ := bnd1_inv h
      refine kVV (n := 0) (As := []) (rest := []) CF hl hK hP hD hS hA (c_X0_forget l D cI (a 25) (a 26) sg lz  u64_lz q64) gX3_lane_X0_forget rfl dX3_lane_64 (by decide +kernel) ⟨⟨rfl, rfl⟩, ⟨Nat.le_of_ble_eq_true rfl, Nat.le_of_ble_eq_true rfl⟩, Nat.zero_le _, Nat.zero_le _⟩ (JN.sub (wst' := (cX a cI no u33_mi ke hk sg u64_lz rn rs rf be fh oh)) [25, 26] rfl rfl rfl rfl) 25 rfl ⟨rfl, rfl⟩ rfl rfl (Nat.le_of_ble_eq_true rfl) (fun H locs hP hD hS => ?_)
      replace hP : va_P D vwCl (cX a cI no u33_mi ke hk sg u64_lz rn rs rf be fh oh) H := hP
      replace hD : va_D A (cX a cI no u33_mi ke hk sg u64_lz rn rs rf be fh oh) := hD
      refine lv_iload_n hx hb dX3_lane_67 rfl (lv_at hl 0 rfl) ?_
      obtain ⟨rfl, rfl, rfl, rfl⟩ := ret4 h
      exact rI hQ hx hb hr hlocks hAe hP hS rfl rfl dX3_lane_68
    · replace h := fx_ite_f c46 h
      refine lv_aload_n hx hb dX3_lane_49 rfl (lv_at hl 2 rfl) ?_
      refine va_get (D := D) (ci := 3) (v := .ref (a 1)) (C := RX3) (T := TX3) (N := 11) hx hb hts i3 hown hK hP 0 rfl rfl 0 (by decide) f10 (fun _ h9 => h9) rfl dX3_lane_50 ?_
      refine lv_aload_n hx hb dX3_lane_53 rfl (lv_at hl 2 rfl) ?_
      refine va_get (D := D) (ci := 3) (v := .ref (a 9)) (C := RX3) (T := TX3) (N := 11) hx hb hts i3 hown hK hP 0 rfl rfl 1 (by decide) f16 (fun _ h9 => h9) rfl dX3_lane_54 ?_
      obtain ⟨u57_no, q57, h⟩ := bnd1_inv h
      refine kVV (n := 1) (As := [.ref (a 9)]) (rest := []) CF hl hK hP hD hS hA (c_X2_become l D cI (a 1) (a 2) (a 3) (a 4) (a 5) (a 6) (a 7) (a 8) (a 9) (a 10) (a 11) (a 12) (a 13) (a 14) (a 15) (a 16) no u33_mi  u57_no q57) gX3_lane_X2_become rfl dX3_lane_57 (by decide +kernel) ⟨⟨rfl, rfl⟩, ⟨Nat.le_of_ble_eq_true rfl, Nat.le_of_ble_eq_true rfl⟩, Nat.zero_le _, Nat.zero_le _⟩ (JN.sub (wst' := (cX a cI u57_no u33_mi ke hk sg lz rn rs rf be fh oh)) [1, 2, 3, 4, 5, 6, 7, 8, 9, 10, 11, 12, 13, 14, 15, 16] rfl rfl rfl rfl) 1 rfl ⟨rfl, rfl⟩ rfl rfl (Nat.le_of_ble_eq_true rfl) (fun H locs hP hD hS => ?_)
      replace hP : va_P D vwCl (cX a cI u57_no u33_mi ke hk sg lz rn rs rf be fh oh) H := hP
      replace hD : va_D A (cX a cI u57_no u33_mi ke hk sg lz rn rs rf be fh oh) := hD
      refine lv_aload_n hx hb dX3_lane_60 rfl (lv_at hl 2 rfl) ?_
      refine va_get (D := D) (ci := 3) (v := .ref (a 25)) (C := RX3) (T := TX3) (N := 11) hx hb hts i3 hown hK hP 0 rfl rfl 4 (by decide) f29 (fun _ h9 => h9) rfl dX3_lane_61 ?_
      obtain ⟨u64_lz, q64, h⟩ := bnd1_inv h
      refine kVV (n := 0) (As := []) (rest := []) CF hl hK hP hD hS hA (c_X0_forget l D cI (a 25) (a 26) sg lz  u64_lz q64) gX3_lane_X0_forget rfl dX3_lane_64 (by decide +kernel) ⟨⟨rfl, rfl⟩, ⟨Nat.le_of_ble_eq_true rfl, Nat.le_of_ble_eq_true rfl⟩, Nat.zero_le _, Nat.zero_le _⟩ (JN.sub (wst' := (cX a cI u57_no u33_mi ke hk sg u64_lz rn rs rf be fh oh)) [25, 26] rfl rfl rfl rfl) 25 rfl ⟨rfl, rfl⟩ rfl rfl (Nat.le_of_ble_eq_true rfl) (fun H locs hP hD hS => ?_)
      replace hP : va_P D vwCl (cX a cI u57_no u33_mi ke hk sg u64_lz rn rs rf be fh oh) H := hP
      replace hD : va_D A (cX a cI u57_no u33_mi ke hk sg u64_lz rn rs rf be fh oh) := hD
      refine lv_iload_n hx hb dX3_lane_67 rfl (lv_at hl 0 rfl) ?_
      obtain ⟨rfl, rfl, rfl, rfl⟩ := ret4 h
      exact rI hQ hx hb hr hlocks hAe hP hS rfl rfl dX3_lane_68
/-! X3_person -/
set_option maxHeartbeats 4000000 in
set_option maxRecDepth 100000 in
theorem c_X3_person (l : Launch) (D : va_G) (cI : ClassId) (a : Nat → Nat) (no : SV) (mi : SV) (ke : SV) (hk : Int32) (sg : (Nat → Int32)) (lz : Int32) (rn : (Nat → Int32)) (rs : Int32) (rf : (Nat → Int32)) (be : (Nat → Int32)) (fh : (Nat → Int32)) (oh : (Nat → Int32)) (p1 : Int32) (p2 : Int32) (res : Int32) (u_rf : (Nat → Int32)) (h : M_X3_person no rf p1 p2 = some (res, u_rf)) : mI l yX3_person wsX3_person { frames := 1, cells := 0, slots := 0, locals := 23 } D cI [.ref (a 0), .int p1, .int p2] (cX a cI no mi ke hk sg lz rn rs rf be fh oh) (cX a cI no mi ke hk sg lz rn rs u_rf be fh oh) res := by
  intro sz
  refine mStart (cc := cX3_person) (maxL := 3) (ret := (some .int)) (own := RX3) (by decide) rfl rfl (Nat.le_of_ble_eq_true rfl) (lv := [(0, .ref (a 0)), (1, .int p1), (2, .int p2)]) rfl ?_
  intro p e s m args below meth c A ls Q H locs CF hr hlocks hK hP hD hS hA hAe hl hQ
  obtain ⟨hx, hb, hml, hown, hts⟩ := id CF
  have f10 := hts (.fieldLink RX3 10 "MendAnothersBreaking" "now" "LMendAnothersBreaking$State;") (List.mem_of_getElem? (i := 1) rfl)
  have f87 := hts (.fieldLink RX3 87 "MendAnothersBreaking$State" "skills" "[I") (List.mem_of_getElem? (i := 2) rfl)
  have f90 := hts (.fieldLink RX3 90 "MendAnothersBreaking$State" "mended" "[I") (List.mem_of_getElem? (i := 3) rfl)
  have i2 : ∀ w ∈ wsX20, w ∈ wsX3_person := fun w h => List.mem_cons_of_mem _ (List.mem_append_right _ h)
  have i3 : ∀ w ∈ wsX30, w ∈ wsX3_person := fun w h => List.mem_cons_of_mem _ (List.mem_append_left _ (List.mem_append_right _ h))
  unfold M_X3_person at h
  refine lv_aload_n hx hb dX3_person_0 rfl (lv_at hl 0 rfl) ?_
  refine va_get (D := D) (ci := 3) (v := .ref (a 1)) (C := RX3) (T := TX3) (N := 11) hx hb hts i3 hown hK hP 0 rfl rfl 0 (by decide) f10 (fun _ h9 => h9) rfl dX3_person_1 ?_
  refine lv_iload_n hx hb dX3_person_4 rfl (lv_at hl 1 rfl) ?_
  obtain ⟨r5, q5, h⟩ := bnd1_inv h
  refine kVI (n := 1) (As := [.int p1]) (rest := []) CF hl hK hP hD hS hA (c_X2_isPerson l D cI (a 1) (a 2) (a 3) (a 4) (a 5) (a 6) (a 7) (a 8) no p1 r5 q5) gX3_person_X2_isPerson rfl dX3_person_5 (by decide +kernel) ⟨⟨rfl, rfl⟩, ⟨Nat.le_of_ble_eq_true rfl, Nat.le_of_ble_eq_true rfl⟩, Nat.zero_le _, Nat.zero_le _⟩ (JN.ro [1, 2, 3, 4, 5, 6, 7, 8] rfl rfl) 1 rfl ⟨rfl, rfl⟩ rfl rfl (Nat.le_of_ble_eq_true rfl) (fun H locs hP hD hS => ?_)
  refine lv_if_ne (tgt := 17) hx hb dX3_person_8 (by decide) (fun c8 => ?_) (fun c8 => ?_)
  · replace h := fx_ite_f c8 h
    refine lv_iload_n hx hb dX3_person_17 rfl (lv_at hl 2 rfl) ?_
    by_cases s18_0 : p2 = 0
    · replace h := fx_ite_t s18_0 h
      refine lv_tableIn (tgt := 48) hx hb dX3_person_18 (by rw [s18_0]; decide) (by rw [s18_0]; decide) (off := 30) (by rw [s18_0]; rfl) (by decide) ?_
      refine lv_aload_n hx hb dX3_person_48 rfl (lv_at hl 0 rfl) ?_
      refine va_get (D := D) (ci := 3) (v := .ref (a 1)) (C := RX3) (T := TX3) (N := 11) hx hb hts i3 hown hK hP 0 rfl rfl 0 (by decide) f10 (fun _ h9 => h9) rfl dX3_person_49 ?_
      refine va_get (D := D) (ci := 2) (v := .ref (a 2)) (C := RX2) (T := TX2) (N := 10) hx hb hts i2 hown hK hP 1 rfl rfl 0 (by decide) f87 (fun _ h9 => h9) rfl dX3_person_52 ?_
      refine lv_iload_n hx hb dX3_person_55 rfl (lv_at hl 1 rfl) ?_
      obtain ⟨g56, h⟩ := chk_inv h
      refine va_iald (n := 6) (f := (sSk no)) hx hb hK hP 2 0 rfl rfl g56 dX3_person_56 ?_
      obtain ⟨rfl, rfl⟩ := ret2 h
      exact rI hQ hx hb hr hlocks hAe hP hS rfl rfl dX3_person_57
    replace h := fx_ite_f s18_0 h
    by_cases s18_1 : p2 = 1
    · replace h := fx_ite_t s18_1 h
      refine lv_tableIn (tgt := 58) hx hb dX3_person_18 (by rw [s18_1]; decide) (by rw [s18_1]; decide) (off := 40) (by rw [s18_1]; rfl) (by decide) ?_
      refine lv_aload_n hx hb dX3_person_58 rfl (lv_at hl 0 rfl) ?_
      refine va_get (D := D) (ci := 3) (v := .ref (a 1)) (C := RX3) (T := TX3) (N := 11) hx hb hts i3 hown hK hP 0 rfl rfl 0 (by decide) f10 (fun _ h9 => h9) rfl dX3_person_59 ?_
      refine va_get (D := D) (ci := 2) (v := .ref (a 3)) (C := RX2) (T := TX2) (N := 10) hx hb hts i2 hown hK hP 1 rfl rfl 1 (by decide) f90 (fun _ h9 => h9) rfl dX3_person_62 ?_
      refine lv_iload_n hx hb dX3_person_65 rfl (lv_at hl 1 rfl) ?_
      obtain ⟨g66, h⟩ := chk_inv h
      refine va_iald (n := 6) (f := (sMe no)) hx hb hK hP 3 0 rfl rfl g66 dX3_person_66 ?_
      obtain ⟨rfl, rfl⟩ := ret2 h
      exact rI hQ hx hb hr hlocks hAe hP hS rfl rfl dX3_person_67
    replace h := fx_ite_f s18_1 h
    by_cases s18_2 : p2 = 2
    · replace h := fx_ite_t s18_2 h
      refine lv_tableIn (tgt := 68) hx hb dX3_person_18 (by rw [s18_2]; decide) (by rw [s18_2]; decide) (off := 50) (by rw [s18_2]; rfl) (by decide) ?_
      refine lv_aload_n hx hb dX3_person_68 rfl (lv_at hl 0 rfl) ?_
      refine va_get (D := D) (ci := 3) (v := .ref (a 1)) (C := RX3) (T := TX3) (N := 11) hx hb hts i3 hown hK hP 0 rfl rfl 0 (by decide) f10 (fun _ h9 => h9) rfl dX3_person_69 ?_
      refine lv_iload_n hx hb dX3_person_72 rfl (lv_at hl 1 rfl) ?_
      obtain ⟨r73, q73, h⟩ := bnd1_inv h
      refine kVI (n := 1) (As := [.int p1]) (rest := []) CF hl hK hP hD hS hA (c_X2_ownedBy l D cI (a 1) (a 2) (a 3) (a 4) (a 5) (a 6) (a 7) (a 8) no p1 r73 q73) gX3_person_X2_ownedBy rfl dX3_person_73 (by decide +kernel) ⟨⟨rfl, rfl⟩, ⟨Nat.le_of_ble_eq_true rfl, Nat.le_of_ble_eq_true rfl⟩, Nat.zero_le _, Nat.zero_le _⟩ (JN.ro [1, 2, 3, 4, 5, 6, 7, 8] rfl rfl) 1 rfl ⟨rfl, rfl⟩ rfl rfl (Nat.le_of_ble_eq_true rfl) (fun H locs hP hD hS => ?_)
      obtain ⟨rfl, rfl⟩ := ret2 h
      exact rI hQ hx hb hr hlocks hAe hP hS rfl rfl dX3_person_76
    replace h := fx_ite_f s18_2 h
    by_cases s18_3 : p2 = 3
    · replace h := fx_ite_t s18_3 h
      refine lv_tableIn (tgt := 77) hx hb dX3_person_18 (by rw [s18_3]; decide) (by rw [s18_3]; decide) (off := 59) (by rw [s18_3]; rfl) (by decide) ?_
      refine lv_aload_n hx hb dX3_person_77 rfl (lv_at hl 0 rfl) ?_
      refine va_get (D := D) (ci := 3) (v := .ref (a 1)) (C := RX3) (T := TX3) (N := 11) hx hb hts i3 hown hK hP 0 rfl rfl 0 (by decide) f10 (fun _ h9 => h9) rfl dX3_person_78 ?_
      refine lv_iload_n hx hb dX3_person_81 rfl (lv_at hl 1 rfl) ?_
      obtain ⟨r82, q82, h⟩ := bnd1_inv h
      refine kVI (n := 1) (As := [.int p1]) (rest := []) CF hl hK hP hD hS hA (c_X2_brokenBy l D cI (a 1) (a 2) (a 3) (a 4) (a 5) (a 6) (a 7) (a 8) no p1 r82 q82) gX3_person_X2_brokenBy rfl dX3_person_82 (by decide +kernel) ⟨⟨rfl, rfl⟩, ⟨Nat.le_of_ble_eq_true rfl, Nat.le_of_ble_eq_true rfl⟩, Nat.zero_le _, Nat.zero_le _⟩ (JN.ro [1, 2, 3, 4, 5, 6, 7, 8] rfl rfl) 1 rfl ⟨rfl, rfl⟩ rfl rfl (Nat.le_of_ble_eq_true rfl) (fun H locs hP hD hS => ?_)
      obtain ⟨rfl, rfl⟩ := ret2 h
      exact rI hQ hx hb hr hlocks hAe hP hS rfl rfl dX3_person_85
    replace h := fx_ite_f s18_3 h
    refine lv_tableOut (tgt := 86) hx hb dX3_person_18 (by have a_s18_0 : Int32.toInt p2 ≠ 0 := fx_toInt_ne s18_0; have a_s18_1 : Int32.toInt p2 ≠ 1 := fx_toInt_ne s18_1; have a_s18_2 : Int32.toInt p2 ≠ 2 := fx_toInt_ne s18_2; have a_s18_3 : Int32.toInt p2 ≠ 3 := fx_toInt_ne s18_3; omega) (by decide) ?_
    refine lv_aload_n hx hb dX3_person_86 rfl (lv_at hl 0 rfl) ?_
    refine lv_bipush (v := (-2)) hx hb dX3_person_87 (by decide) ?_
    obtain ⟨r89, u89_rf, q89, h⟩ := bnd2_inv h
    refine kVI (n := 1) (As := [.int (-2 : Int32)]) (rest := []) CF hl hK hP hD hS hA (c_X3_refuse l D cI a no mi ke hk sg lz rn rs rf be fh oh (-2 : Int32) r89 u89_rf q89) gX3_person_X3_refuse rfl dX3_person_89 (by decide +kernel) ⟨⟨rfl, rfl⟩, ⟨Nat.le_of_ble_eq_true rfl, Nat.le_of_ble_eq_true rfl⟩, Nat.zero_le _, Nat.zero_le _⟩ (JN.whole (w1 := (cX a cI no mi ke hk sg lz rn rs u89_rf be fh oh)) rfl) 0 rfl ⟨rfl, rfl⟩ rfl rfl (Nat.le_of_ble_eq_true rfl) (fun H locs hP hD hS => ?_)
    replace hP : va_P D vwCl (cX a cI no mi ke hk sg lz rn rs u89_rf be fh oh) H := hP
    replace hD : va_D A (cX a cI no mi ke hk sg lz rn rs u89_rf be fh oh) := hD
    obtain ⟨rfl, rfl⟩ := ret2 h
    exact rI hQ hx hb hr hlocks hAe hP hS rfl rfl dX3_person_92
  · replace h := fx_ite_t c8 h
    refine lv_aload_n hx hb dX3_person_11 rfl (lv_at hl 0 rfl) ?_
    refine lv_iconst (v := (-1)) hx hb dX3_person_12 (by decide) ?_
    obtain ⟨r13, u13_rf, q13, h⟩ := bnd2_inv h
    refine kVI (n := 1) (As := [.int (-1 : Int32)]) (rest := []) CF hl hK hP hD hS hA (c_X3_refuse l D cI a no mi ke hk sg lz rn rs rf be fh oh (-1 : Int32) r13 u13_rf q13) gX3_person_X3_refuse rfl dX3_person_13 (by decide +kernel) ⟨⟨rfl, rfl⟩, ⟨Nat.le_of_ble_eq_true rfl, Nat.le_of_ble_eq_true rfl⟩, Nat.zero_le _, Nat.zero_le _⟩ (JN.whole (w1 := (cX a cI no mi ke hk sg lz rn rs u13_rf be fh oh)) rfl) 0 rfl ⟨rfl, rfl⟩ rfl rfl (Nat.le_of_ble_eq_true rfl) (fun H locs hP hD hS => ?_)
    replace hP : va_P D vwCl (cX a cI no mi ke hk sg lz rn rs u13_rf be fh oh) H := hP
    replace hD : va_D A (cX a cI no mi ke hk sg lz rn rs u13_rf be fh oh) := hD
    obtain ⟨rfl, rfl⟩ := ret2 h
    exact rI hQ hx hb hr hlocks hAe hP hS rfl rfl dX3_person_16
/-! X3_thing -/
set_option maxHeartbeats 4000000 in
set_option maxRecDepth 100000 in
theorem c_X3_thing (l : Launch) (D : va_G) (cI : ClassId) (a : Nat → Nat) (no : SV) (mi : SV) (ke : SV) (hk : Int32) (sg : (Nat → Int32)) (lz : Int32) (rn : (Nat → Int32)) (rs : Int32) (rf : (Nat → Int32)) (be : (Nat → Int32)) (fh : (Nat → Int32)) (oh : (Nat → Int32)) (p1 : Int32) (p2 : Int32) (res : Int32) (u_rf : (Nat → Int32)) (h : M_X3_thing no rf p1 p2 = some (res, u_rf)) : mI l yX3_thing wsX3_thing { frames := 2, cells := 0, slots := 0, locals := 45 } D cI [.ref (a 0), .int p1, .int p2] (cX a cI no mi ke hk sg lz rn rs rf be fh oh) (cX a cI no mi ke hk sg lz rn rs u_rf be fh oh) res := by
  intro sz
  refine mStart (cc := cX3_thing) (maxL := 3) (ret := (some .int)) (own := RX3) (by decide) rfl rfl (Nat.le_of_ble_eq_true rfl) (lv := [(0, .ref (a 0)), (1, .int p1), (2, .int p2)]) rfl ?_
  intro p e s m args below meth c A ls Q H locs CF hr hlocks hK hP hD hS hA hAe hl hQ
  obtain ⟨hx, hb, hml, hown, hts⟩ := id CF
  have f10 := hts (.fieldLink RX3 10 "MendAnothersBreaking" "now" "LMendAnothersBreaking$State;") (List.mem_of_getElem? (i := 1) rfl)
  have f102 := hts (.fieldLink RX3 102 "MendAnothersBreaking$State" "kinds" "[I") (List.mem_of_getElem? (i := 2) rfl)
  have f105 := hts (.fieldLink RX3 105 "MendAnothersBreaking$State" "figures" "[I") (List.mem_of_getElem? (i := 3) rfl)
  have f108 := hts (.fieldLink RX3 108 "MendAnothersBreaking$State" "owners" "[I") (List.mem_of_getElem? (i := 4) rfl)
  have f111 := hts (.fieldLink RX3 111 "MendAnothersBreaking$State" "wear" "[I") (List.mem_of_getElem? (i := 5) rfl)
  have f114 := hts (.fieldLink RX3 114 "MendAnothersBreaking$State" "breakers" "[I") (List.mem_of_getElem? (i := 6) rfl)
  have f120 := hts (.fieldLink RX3 120 "MendAnothersBreaking$State" "day" "I") (List.mem_of_getElem? (i := 7) rfl)
  have i2 : ∀ w ∈ wsX20, w ∈ wsX3_thing := fun w h => List.mem_cons_of_mem _ (List.mem_append_right _ h)
  have i3 : ∀ w ∈ wsX30, w ∈ wsX3_thing := fun w h => List.mem_cons_of_mem _ (List.mem_append_left _ (List.mem_append_right _ h))
  unfold M_X3_thing at h
  refine lv_aload_n hx hb dX3_thing_0 rfl (lv_at hl 0 rfl) ?_
  refine va_get (D := D) (ci := 3) (v := .ref (a 1)) (C := RX3) (T := TX3) (N := 11) hx hb hts i3 hown hK hP 0 rfl rfl 0 (by decide) f10 (fun _ h9 => h9) rfl dX3_thing_1 ?_
  refine lv_iload_n hx hb dX3_thing_4 rfl (lv_at hl 1 rfl) ?_
  obtain ⟨r5, q5, h⟩ := bnd1_inv h
  refine kVI (n := 1) (As := [.int p1]) (rest := []) CF hl hK hP hD hS hA (c_X2_isThing l D cI (a 1) (a 2) (a 3) (a 4) (a 5) (a 6) (a 7) (a 8) no p1 r5 q5) gX3_thing_X2_isThing rfl dX3_thing_5 (by decide +kernel) ⟨⟨rfl, rfl⟩, ⟨Nat.le_of_ble_eq_true rfl, Nat.le_of_ble_eq_true rfl⟩, Nat.zero_le _, Nat.zero_le _⟩ (JN.ro [1, 2, 3, 4, 5, 6, 7, 8] rfl rfl) 1 rfl ⟨rfl, rfl⟩ rfl rfl (Nat.le_of_ble_eq_true rfl) (fun H locs hP hD hS => ?_)
  refine lv_if_ne (tgt := 17) hx hb dX3_thing_8 (by decide) (fun c8 => ?_) (fun c8 => ?_)
  · replace h := fx_ite_f c8 h
    refine lv_iload_n hx hb dX3_thing_17 rfl (lv_at hl 2 rfl) ?_
    by_cases s18_0 : p2 = 0
    · replace h := fx_ite_t s18_0 h
      refine lv_tableIn (tgt := 60) hx hb dX3_thing_18 (by rw [s18_0]; decide) (by rw [s18_0]; decide) (off := 42) (by rw [s18_0]; rfl) (by decide) ?_
      refine lv_aload_n hx hb dX3_thing_60 rfl (lv_at hl 0 rfl) ?_
      refine va_get (D := D) (ci := 3) (v := .ref (a 1)) (C := RX3) (T := TX3) (N := 11) hx hb hts i3 hown hK hP 0 rfl rfl 0 (by decide) f10 (fun _ h9 => h9) rfl dX3_thing_61 ?_
      refine va_get (D := D) (ci := 2) (v := .ref (a 4)) (C := RX2) (T := TX2) (N := 10) hx hb hts i2 hown hK hP 1 rfl rfl 2 (by decide) f102 (fun _ h9 => h9) rfl dX3_thing_64 ?_
      refine lv_iload_n hx hb dX3_thing_67 rfl (lv_at hl 1 rfl) ?_
      obtain ⟨g68, h⟩ := chk_inv h
      refine va_iald (n := 9) (f := (sKi no)) hx hb hK hP 4 0 rfl rfl g68 dX3_thing_68 ?_
      obtain ⟨rfl, rfl⟩ := ret2 h
      exact rI hQ hx hb hr hlocks hAe hP hS rfl rfl dX3_thing_69
    replace h := fx_ite_f s18_0 h
    by_cases s18_1 : p2 = 1
    · replace h := fx_ite_t s18_1 h
      refine lv_tableIn (tgt := 70) hx hb dX3_thing_18 (by rw [s18_1]; decide) (by rw [s18_1]; decide) (off := 52) (by rw [s18_1]; rfl) (by decide) ?_
      refine lv_aload_n hx hb dX3_thing_70 rfl (lv_at hl 0 rfl) ?_
      refine va_get (D := D) (ci := 3) (v := .ref (a 1)) (C := RX3) (T := TX3) (N := 11) hx hb hts i3 hown hK hP 0 rfl rfl 0 (by decide) f10 (fun _ h9 => h9) rfl dX3_thing_71 ?_
      refine va_get (D := D) (ci := 2) (v := .ref (a 5)) (C := RX2) (T := TX2) (N := 10) hx hb hts i2 hown hK hP 1 rfl rfl 3 (by decide) f105 (fun _ h9 => h9) rfl dX3_thing_74 ?_
      refine lv_iload_n hx hb dX3_thing_77 rfl (lv_at hl 1 rfl) ?_
      obtain ⟨g78, h⟩ := chk_inv h
      refine va_iald (n := 9) (f := (sFi no)) hx hb hK hP 5 0 rfl rfl g78 dX3_thing_78 ?_
      obtain ⟨rfl, rfl⟩ := ret2 h
      exact rI hQ hx hb hr hlocks hAe hP hS rfl rfl dX3_thing_79
    replace h := fx_ite_f s18_1 h
    by_cases s18_2 : p2 = 2
    · replace h := fx_ite_t s18_2 h
      refine lv_tableIn (tgt := 80) hx hb dX3_thing_18 (by rw [s18_2]; decide) (by rw [s18_2]; decide) (off := 62) (by rw [s18_2]; rfl) (by decide) ?_
      refine lv_aload_n hx hb dX3_thing_80 rfl (lv_at hl 0 rfl) ?_
      refine va_get (D := D) (ci := 3) (v := .ref (a 1)) (C := RX3) (T := TX3) (N := 11) hx hb hts i3 hown hK hP 0 rfl rfl 0 (by decide) f10 (fun _ h9 => h9) rfl dX3_thing_81 ?_
      refine va_get (D := D) (ci := 2) (v := .ref (a 6)) (C := RX2) (T := TX2) (N := 10) hx hb hts i2 hown hK hP 1 rfl rfl 4 (by decide) f108 (fun _ h9 => h9) rfl dX3_thing_84 ?_
      refine lv_iload_n hx hb dX3_thing_87 rfl (lv_at hl 1 rfl) ?_
      obtain ⟨g88, h⟩ := chk_inv h
      refine va_iald (n := 9) (f := (sOw no)) hx hb hK hP 6 0 rfl rfl g88 dX3_thing_88 ?_
      obtain ⟨rfl, rfl⟩ := ret2 h
      exact rI hQ hx hb hr hlocks hAe hP hS rfl rfl dX3_thing_89
    replace h := fx_ite_f s18_2 h
    by_cases s18_3 : p2 = 3
    · replace h := fx_ite_t s18_3 h
      refine lv_tableIn (tgt := 90) hx hb dX3_thing_18 (by rw [s18_3]; decide) (by rw [s18_3]; decide) (off := 72) (by rw [s18_3]; rfl) (by decide) ?_
      refine lv_aload_n hx hb dX3_thing_90 rfl (lv_at hl 0 rfl) ?_
      refine va_get (D := D) (ci := 3) (v := .ref (a 1)) (C := RX3) (T := TX3) (N := 11) hx hb hts i3 hown hK hP 0 rfl rfl 0 (by decide) f10 (fun _ h9 => h9) rfl dX3_thing_91 ?_
      refine va_get (D := D) (ci := 2) (v := .ref (a 7)) (C := RX2) (T := TX2) (N := 10) hx hb hts i2 hown hK hP 1 rfl rfl 5 (by decide) f111 (fun _ h9 => h9) rfl dX3_thing_94 ?_
      refine lv_iload_n hx hb dX3_thing_97 rfl (lv_at hl 1 rfl) ?_
      obtain ⟨g98, h⟩ := chk_inv h
      refine va_iald (n := 9) (f := (sWe no)) hx hb hK hP 7 0 rfl rfl g98 dX3_thing_98 ?_
      obtain ⟨rfl, rfl⟩ := ret2 h
      exact rI hQ hx hb hr hlocks hAe hP hS rfl rfl dX3_thing_99
    replace h := fx_ite_f s18_3 h
    by_cases s18_4 : p2 = 4
    · replace h := fx_ite_t s18_4 h
      refine lv_tableIn (tgt := 100) hx hb dX3_thing_18 (by rw [s18_4]; decide) (by rw [s18_4]; decide) (off := 82) (by rw [s18_4]; rfl) (by decide) ?_
      refine lv_aload_n hx hb dX3_thing_100 rfl (lv_at hl 0 rfl) ?_
      refine va_get (D := D) (ci := 3) (v := .ref (a 1)) (C := RX3) (T := TX3) (N := 11) hx hb hts i3 hown hK hP 0 rfl rfl 0 (by decide) f10 (fun _ h9 => h9) rfl dX3_thing_101 ?_
      refine va_get (D := D) (ci := 2) (v := .ref (a 8)) (C := RX2) (T := TX2) (N := 10) hx hb hts i2 hown hK hP 1 rfl rfl 6 (by decide) f114 (fun _ h9 => h9) rfl dX3_thing_104 ?_
      refine lv_iload_n hx hb dX3_thing_107 rfl (lv_at hl 1 rfl) ?_
      obtain ⟨g108, h⟩ := chk_inv h
      refine va_iald (n := 9) (f := (sBr no)) hx hb hK hP 8 0 rfl rfl g108 dX3_thing_108 ?_
      obtain ⟨rfl, rfl⟩ := ret2 h
      exact rI hQ hx hb hr hlocks hAe hP hS rfl rfl dX3_thing_109
    replace h := fx_ite_f s18_4 h
    by_cases s18_5 : p2 = 5
    · replace h := fx_ite_t s18_5 h
      refine lv_tableIn (tgt := 110) hx hb dX3_thing_18 (by rw [s18_5]; decide) (by rw [s18_5]; decide) (off := 92) (by rw [s18_5]; rfl) (by decide) ?_
      refine lv_aload_n hx hb dX3_thing_110 rfl (lv_at hl 0 rfl) ?_
      refine va_get (D := D) (ci := 3) (v := .ref (a 1)) (C := RX3) (T := TX3) (N := 11) hx hb hts i3 hown hK hP 0 rfl rfl 0 (by decide) f10 (fun _ h9 => h9) rfl dX3_thing_111 ?_
      refine lv_iload_n hx hb dX3_thing_114 rfl (lv_at hl 1 rfl) ?_
      obtain ⟨r115, q115, h⟩ := bnd1_inv h
      refine kVI (n := 1) (As := [.int p1]) (rest := []) CF hl hK hP hD hS hA (c_X2_hardOf l D cI (a 1) (a 2) (a 3) (a 4) (a 5) (a 6) (a 7) (a 8) no p1 r115 q115) gX3_thing_X2_hardOf rfl dX3_thing_115 (by decide +kernel) ⟨⟨rfl, rfl⟩, ⟨Nat.le_of_ble_eq_true rfl, Nat.le_of_ble_eq_true rfl⟩, Nat.zero_le _, Nat.zero_le _⟩ (JN.ro [1, 2, 3, 4, 5, 6, 7, 8] rfl rfl) 1 rfl ⟨rfl, rfl⟩ rfl rfl (Nat.le_of_ble_eq_true rfl) (fun H locs hP hD hS => ?_)
      obtain ⟨rfl, rfl⟩ := ret2 h
      exact rI hQ hx hb hr hlocks hAe hP hS rfl rfl dX3_thing_118
    replace h := fx_ite_f s18_5 h
    by_cases s18_6 : p2 = 6
    · replace h := fx_ite_t s18_6 h
      refine lv_tableIn (tgt := 119) hx hb dX3_thing_18 (by rw [s18_6]; decide) (by rw [s18_6]; decide) (off := 101) (by rw [s18_6]; rfl) (by decide) ?_
      refine lv_aload_n hx hb dX3_thing_119 rfl (lv_at hl 0 rfl) ?_
      refine va_get (D := D) (ci := 3) (v := .ref (a 1)) (C := RX3) (T := TX3) (N := 11) hx hb hts i3 hown hK hP 0 rfl rfl 0 (by decide) f10 (fun _ h9 => h9) rfl dX3_thing_120 ?_
      refine lv_iload_n hx hb dX3_thing_123 rfl (lv_at hl 1 rfl) ?_
      refine lv_aload_n hx hb dX3_thing_124 rfl (lv_at hl 0 rfl) ?_
      refine va_get (D := D) (ci := 3) (v := .ref (a 1)) (C := RX3) (T := TX3) (N := 11) hx hb hts i3 hown hK hP 0 rfl rfl 0 (by decide) f10 (fun _ h9 => h9) rfl dX3_thing_125 ?_
      refine va_get (D := D) (ci := 2) (v := .int (sDa no)) (C := RX2) (T := TX2) (N := 10) hx hb hts i2 hown hK hP 1 rfl rfl 9 (by decide) f120 (fun _ h9 => h9) rfl dX3_thing_128 ?_
      refine lv_iconst (v := 1) hx hb dX3_thing_131 (by decide) ?_
      refine lv_iadd hx hb dX3_thing_132 ?_
      obtain ⟨r133, q133, h⟩ := bnd1_inv h
      refine kVI (n := 2) (As := [.int p1, .int ((sDa no) + (1 : Int32))]) (rest := []) CF hl hK hP hD hS hA (c_X2_moreWearOf l D cI (a 1) (a 2) (a 3) (a 4) (a 5) (a 6) (a 7) (a 8) no p1 ((sDa no) + (1 : Int32)) r133 q133) gX3_thing_X2_moreWearOf rfl dX3_thing_133 (by decide +kernel) ⟨⟨rfl, rfl⟩, ⟨Nat.le_of_ble_eq_true rfl, Nat.le_of_ble_eq_true rfl⟩, Nat.zero_le _, Nat.zero_le _⟩ (JN.ro [1, 2, 3, 4, 5, 6, 7, 8] rfl rfl) 1 rfl ⟨rfl, rfl⟩ rfl rfl (Nat.le_of_ble_eq_true rfl) (fun H locs hP hD hS => ?_)
      obtain ⟨rfl, rfl⟩ := ret2 h
      exact rI hQ hx hb hr hlocks hAe hP hS rfl rfl dX3_thing_136
    replace h := fx_ite_f s18_6 h
    refine lv_tableOut (tgt := 137) hx hb dX3_thing_18 (by have a_s18_0 : Int32.toInt p2 ≠ 0 := fx_toInt_ne s18_0; have a_s18_1 : Int32.toInt p2 ≠ 1 := fx_toInt_ne s18_1; have a_s18_2 : Int32.toInt p2 ≠ 2 := fx_toInt_ne s18_2; have a_s18_3 : Int32.toInt p2 ≠ 3 := fx_toInt_ne s18_3; have a_s18_4 : Int32.toInt p2 ≠ 4 := fx_toInt_ne s18_4; have a_s18_5 : Int32.toInt p2 ≠ 5 := fx_toInt_ne s18_5; have a_s18_6 : Int32.toInt p2 ≠ 6 := fx_toInt_ne s18_6; omega) (by decide) ?_
    refine lv_aload_n hx hb dX3_thing_137 rfl (lv_at hl 0 rfl) ?_
    refine lv_bipush (v := (-2)) hx hb dX3_thing_138 (by decide) ?_
    obtain ⟨r140, u140_rf, q140, h⟩ := bnd2_inv h
    refine kVI (n := 1) (As := [.int (-2 : Int32)]) (rest := []) CF hl hK hP hD hS hA (c_X3_refuse l D cI a no mi ke hk sg lz rn rs rf be fh oh (-2 : Int32) r140 u140_rf q140) gX3_thing_X3_refuse rfl dX3_thing_140 (by decide +kernel) ⟨⟨rfl, rfl⟩, ⟨Nat.le_of_ble_eq_true rfl, Nat.le_of_ble_eq_true rfl⟩, Nat.zero_le _, Nat.zero_le _⟩ (JN.whole (w1 := (cX a cI no mi ke hk sg lz rn rs u140_rf be fh oh)) rfl) 0 rfl ⟨rfl, rfl⟩ rfl rfl (Nat.le_of_ble_eq_true rfl) (fun H locs hP hD hS => ?_)
    replace hP : va_P D vwCl (cX a cI no mi ke hk sg lz rn rs u140_rf be fh oh) H := hP
    replace hD : va_D A (cX a cI no mi ke hk sg lz rn rs u140_rf be fh oh) := hD
    obtain ⟨rfl, rfl⟩ := ret2 h
    exact rI hQ hx hb hr hlocks hAe hP hS rfl rfl dX3_thing_143
  · replace h := fx_ite_t c8 h
    refine lv_aload_n hx hb dX3_thing_11 rfl (lv_at hl 0 rfl) ?_
    refine lv_iconst (v := (-1)) hx hb dX3_thing_12 (by decide) ?_
    obtain ⟨r13, u13_rf, q13, h⟩ := bnd2_inv h
    refine kVI (n := 1) (As := [.int (-1 : Int32)]) (rest := []) CF hl hK hP hD hS hA (c_X3_refuse l D cI a no mi ke hk sg lz rn rs rf be fh oh (-1 : Int32) r13 u13_rf q13) gX3_thing_X3_refuse rfl dX3_thing_13 (by decide +kernel) ⟨⟨rfl, rfl⟩, ⟨Nat.le_of_ble_eq_true rfl, Nat.le_of_ble_eq_true rfl⟩, Nat.zero_le _, Nat.zero_le _⟩ (JN.whole (w1 := (cX a cI no mi ke hk sg lz rn rs u13_rf be fh oh)) rfl) 0 rfl ⟨rfl, rfl⟩ rfl rfl (Nat.le_of_ble_eq_true rfl) (fun H locs hP hD hS => ?_)
    replace hP : va_P D vwCl (cX a cI no mi ke hk sg lz rn rs u13_rf be fh oh) H := hP
    replace hD : va_D A (cX a cI no mi ke hk sg lz rn rs u13_rf be fh oh) := hD
    obtain ⟨rfl, rfl⟩ := ret2 h
    exact rI hQ hx hb hr hlocks hAe hP hS rfl rfl dX3_thing_16
/-! X3_breaks -/
set_option maxHeartbeats 4000000 in
set_option maxRecDepth 100000 in
theorem c_X3_breaks (l : Launch) (D : va_G) (cI : ClassId) (a : Nat → Nat) (no : SV) (mi : SV) (ke : SV) (hk : Int32) (sg : (Nat → Int32)) (lz : Int32) (rn : (Nat → Int32)) (rs : Int32) (rf : (Nat → Int32)) (be : (Nat → Int32)) (fh : (Nat → Int32)) (oh : (Nat → Int32)) (p1 : Int32) (p2 : Int32) (res : Int32) (u_no : SV) (u_rf : (Nat → Int32)) (h : M_X3_breaks no rf p1 p2 = some (res, u_no, u_rf)) : mI l yX3_breaks wsX3_breaks { frames := 3, cells := 0, slots := 0, locals := 63 } D cI [.ref (a 0), .int p1, .int p2] (cX a cI no mi ke hk sg lz rn rs rf be fh oh) (cX a cI u_no mi ke hk sg lz rn rs u_rf be fh oh) res := by
  intro sz
  refine mStart (cc := cX3_breaks) (maxL := 3) (ret := (some .int)) (own := RX3) (by decide) rfl rfl (Nat.le_of_ble_eq_true rfl) (lv := [(0, .ref (a 0)), (1, .int p1), (2, .int p2)]) rfl ?_
  intro p e s m args below meth c A ls Q H locs CF hr hlocks hK hP hD hS hA hAe hl hQ
  obtain ⟨hx, hb, hml, hown, hts⟩ := id CF
  have f10 := hts (.fieldLink RX3 10 "MendAnothersBreaking" "now" "LMendAnothersBreaking$State;") (List.mem_of_getElem? (i := 1) rfl)
  have f114 := hts (.fieldLink RX3 114 "MendAnothersBreaking$State" "breakers" "[I") (List.mem_of_getElem? (i := 2) rfl)
  have i2 : ∀ w ∈ wsX20, w ∈ wsX3_breaks := fun w h => List.mem_cons_of_mem _ (List.mem_append_right _ h)
  have i3 : ∀ w ∈ wsX30, w ∈ wsX3_breaks := fun w h => List.mem_cons_of_mem _ (List.mem_append_left _ (List.mem_append_right _ h))
  unfold M_X3_breaks at h
  refine lv_aload_n hx hb dX3_breaks_0 rfl (lv_at hl 0 rfl) ?_
  refine va_get (D := D) (ci := 3) (v := .ref (a 1)) (C := RX3) (T := TX3) (N := 11) hx hb hts i3 hown hK hP 0 rfl rfl 0 (by decide) f10 (fun _ h9 => h9) rfl dX3_breaks_1 ?_
  refine lv_iload_n hx hb dX3_breaks_4 rfl (lv_at hl 1 rfl) ?_
  obtain ⟨r5, q5, h⟩ := bnd1_inv h
  refine kVI (n := 1) (As := [.int p1]) (rest := []) CF hl hK hP hD hS hA (c_X2_isPerson l D cI (a 1) (a 2) (a 3) (a 4) (a 5) (a 6) (a 7) (a 8) no p1 r5 q5) gX3_breaks_X2_isPerson rfl dX3_breaks_5 (by decide +kernel) ⟨⟨rfl, rfl⟩, ⟨Nat.le_of_ble_eq_true rfl, Nat.le_of_ble_eq_true rfl⟩, Nat.zero_le _, Nat.zero_le _⟩ (JN.ro [1, 2, 3, 4, 5, 6, 7, 8] rfl rfl) 1 rfl ⟨rfl, rfl⟩ rfl rfl (Nat.le_of_ble_eq_true rfl) (fun H locs hP hD hS => ?_)
  refine lv_if_eq (tgt := 22) hx hb dX3_breaks_8 (by decide) (fun c8 => ?_) (fun c8 => ?_)
  · replace h := fx_ite_t c8 h
    refine lv_aload_n hx hb dX3_breaks_22 rfl (lv_at hl 0 rfl) ?_
    refine lv_iconst (v := (-1)) hx hb dX3_breaks_23 (by decide) ?_
    obtain ⟨r24, u24_rf, q24, h⟩ := bnd2_inv h
    refine kVI (n := 1) (As := [.int (-1 : Int32)]) (rest := []) CF hl hK hP hD hS hA (c_X3_refuse l D cI a no mi ke hk sg lz rn rs rf be fh oh (-1 : Int32) r24 u24_rf q24) gX3_breaks_X3_refuse rfl dX3_breaks_24 (by decide +kernel) ⟨⟨rfl, rfl⟩, ⟨Nat.le_of_ble_eq_true rfl, Nat.le_of_ble_eq_true rfl⟩, Nat.zero_le _, Nat.zero_le _⟩ (JN.whole (w1 := (cX a cI no mi ke hk sg lz rn rs u24_rf be fh oh)) rfl) 0 rfl ⟨rfl, rfl⟩ rfl rfl (Nat.le_of_ble_eq_true rfl) (fun H locs hP hD hS => ?_)
    replace hP : va_P D vwCl (cX a cI no mi ke hk sg lz rn rs u24_rf be fh oh) H := hP
    replace hD : va_D A (cX a cI no mi ke hk sg lz rn rs u24_rf be fh oh) := hD
    obtain ⟨rfl, rfl, rfl⟩ := ret3 h
    exact rI hQ hx hb hr hlocks hAe hP hS rfl rfl dX3_breaks_27
  · replace h := fx_ite_f c8 h
    refine lv_aload_n hx hb dX3_breaks_11 rfl (lv_at hl 0 rfl) ?_
    refine va_get (D := D) (ci := 3) (v := .ref (a 1)) (C := RX3) (T := TX3) (N := 11) hx hb hts i3 hown hK hP 0 rfl rfl 0 (by decide) f10 (fun _ h9 => h9) rfl dX3_breaks_12 ?_
    refine lv_iload_n hx hb dX3_breaks_15 rfl (lv_at hl 2 rfl) ?_
    obtain ⟨r16, q16, h⟩ := bnd1_inv h
    refine kVI (n := 1) (As := [.int p2]) (rest := []) CF hl hK hP hD hS hA (c_X2_isThing l D cI (a 1) (a 2) (a 3) (a 4) (a 5) (a 6) (a 7) (a 8) no p2 r16 q16) gX3_breaks_X2_isThing rfl dX3_breaks_16 (by decide +kernel) ⟨⟨rfl, rfl⟩, ⟨Nat.le_of_ble_eq_true rfl, Nat.le_of_ble_eq_true rfl⟩, Nat.zero_le _, Nat.zero_le _⟩ (JN.ro [1, 2, 3, 4, 5, 6, 7, 8] rfl rfl) 1 rfl ⟨rfl, rfl⟩ rfl rfl (Nat.le_of_ble_eq_true rfl) (fun H locs hP hD hS => ?_)
    refine lv_if_ne (tgt := 28) hx hb dX3_breaks_19 (by decide) (fun c19 => ?_) (fun c19 => ?_)
    · replace h := fx_ite_f c19 h
      refine lv_aload_n hx hb dX3_breaks_28 rfl (lv_at hl 0 rfl) ?_
      refine va_get (D := D) (ci := 3) (v := .ref (a 1)) (C := RX3) (T := TX3) (N := 11) hx hb hts i3 hown hK hP 0 rfl rfl 0 (by decide) f10 (fun _ h9 => h9) rfl dX3_breaks_29 ?_
      refine lv_iload_n hx hb dX3_breaks_32 rfl (lv_at hl 2 rfl) ?_
      obtain ⟨r33, q33, h⟩ := bnd1_inv h
      refine kVI (n := 1) (As := [.int p2]) (rest := []) CF hl hK hP hD hS hA (c_X2_isWhole l D cI (a 1) (a 2) (a 3) (a 4) (a 5) (a 6) (a 7) (a 8) no p2 r33 q33) gX3_breaks_X2_isWhole rfl dX3_breaks_33 (by decide +kernel) ⟨⟨rfl, rfl⟩, ⟨Nat.le_of_ble_eq_true rfl, Nat.le_of_ble_eq_true rfl⟩, Nat.zero_le _, Nat.zero_le _⟩ (JN.ro [1, 2, 3, 4, 5, 6, 7, 8] rfl rfl) 1 rfl ⟨rfl, rfl⟩ rfl rfl (Nat.le_of_ble_eq_true rfl) (fun H locs hP hD hS => ?_)
      refine lv_if_ne (tgt := 46) hx hb dX3_breaks_36 (by decide) (fun c36 => ?_) (fun c36 => ?_)
      · replace h := fx_ite_f c36 h
        refine lv_aload_n hx hb dX3_breaks_46 rfl (lv_at hl 0 rfl) ?_
        refine va_get (D := D) (ci := 3) (v := .ref (a 1)) (C := RX3) (T := TX3) (N := 11) hx hb hts i3 hown hK hP 0 rfl rfl 0 (by decide) f10 (fun _ h9 => h9) rfl dX3_breaks_47 ?_
        refine va_get (D := D) (ci := 2) (v := .ref (a 8)) (C := RX2) (T := TX2) (N := 10) hx hb hts i2 hown hK hP 1 rfl rfl 6 (by decide) f114 (fun _ h9 => h9) rfl dX3_breaks_50 ?_
        refine lv_iload_n hx hb dX3_breaks_53 rfl (lv_at hl 2 rfl) ?_
        refine lv_iload_n hx hb dX3_breaks_54 rfl (lv_at hl 1 rfl) ?_
        obtain ⟨g55, h⟩ := chk_inv h
        refine va_iast (n := 9) (f := (sBr no)) hx hb hK hP hD hS 8 0 rfl rfl g55 dX3_breaks_55 (fun H locs hP hD hS => ?_)
        replace hP : va_P D vwCl (cX a cI (sUBr no (upd (sBr no) (Int32.toNatClampNeg p2) p1)) mi ke hk sg lz rn rs rf be fh oh) H := hP
        replace hD : va_D A (cX a cI (sUBr no (upd (sBr no) (Int32.toNatClampNeg p2) p1)) mi ke hk sg lz rn rs rf be fh oh) := hD
        refine lv_aload_n hx hb dX3_breaks_56 rfl (lv_at hl 0 rfl) ?_
        refine va_get (D := D) (ci := 3) (v := .ref (a 1)) (C := RX3) (T := TX3) (N := 11) hx hb hts i3 hown hK hP 0 rfl rfl 0 (by decide) f10 (fun _ h9 => h9) rfl dX3_breaks_57 ?_
        obtain ⟨r60, q60, h⟩ := bnd1_inv h
        refine kVI (n := 0) (As := []) (rest := []) CF hl hK hP hD hS hA (c_X2_wholeCount l D cI (a 1) (a 2) (a 3) (a 4) (a 5) (a 6) (a 7) (a 8) (sUBr no (upd (sBr no) (Int32.toNatClampNeg p2) p1))  r60 q60) gX3_breaks_X2_wholeCount rfl dX3_breaks_60 (by decide +kernel) ⟨⟨rfl, rfl⟩, ⟨Nat.le_of_ble_eq_true rfl, Nat.le_of_ble_eq_true rfl⟩, Nat.zero_le _, Nat.zero_le _⟩ (JN.ro [1, 2, 3, 4, 5, 6, 7, 8] rfl rfl) 1 rfl ⟨rfl, rfl⟩ rfl rfl (Nat.le_of_ble_eq_true rfl) (fun H locs hP hD hS => ?_)
        obtain ⟨rfl, rfl, rfl⟩ := ret3 h
        exact rI hQ hx hb hr hlocks hAe hP hS rfl rfl dX3_breaks_63
      · replace h := fx_ite_t c36 h
        refine lv_aload_n hx hb dX3_breaks_39 rfl (lv_at hl 0 rfl) ?_
        refine lv_bipush (v := (-3)) hx hb dX3_breaks_40 (by decide) ?_
        obtain ⟨r42, u42_rf, q42, h⟩ := bnd2_inv h
        refine kVI (n := 1) (As := [.int (-3 : Int32)]) (rest := []) CF hl hK hP hD hS hA (c_X3_refuse l D cI a no mi ke hk sg lz rn rs rf be fh oh (-3 : Int32) r42 u42_rf q42) gX3_breaks_X3_refuse rfl dX3_breaks_42 (by decide +kernel) ⟨⟨rfl, rfl⟩, ⟨Nat.le_of_ble_eq_true rfl, Nat.le_of_ble_eq_true rfl⟩, Nat.zero_le _, Nat.zero_le _⟩ (JN.whole (w1 := (cX a cI no mi ke hk sg lz rn rs u42_rf be fh oh)) rfl) 0 rfl ⟨rfl, rfl⟩ rfl rfl (Nat.le_of_ble_eq_true rfl) (fun H locs hP hD hS => ?_)
        replace hP : va_P D vwCl (cX a cI no mi ke hk sg lz rn rs u42_rf be fh oh) H := hP
        replace hD : va_D A (cX a cI no mi ke hk sg lz rn rs u42_rf be fh oh) := hD
        obtain ⟨rfl, rfl, rfl⟩ := ret3 h
        exact rI hQ hx hb hr hlocks hAe hP hS rfl rfl dX3_breaks_45
    · replace h := fx_ite_t c19 h
      refine lv_aload_n hx hb dX3_breaks_22 rfl (lv_at hl 0 rfl) ?_
      refine lv_iconst (v := (-1)) hx hb dX3_breaks_23 (by decide) ?_
      obtain ⟨r24, u24_rf, q24, h⟩ := bnd2_inv h
      refine kVI (n := 1) (As := [.int (-1 : Int32)]) (rest := []) CF hl hK hP hD hS hA (c_X3_refuse l D cI a no mi ke hk sg lz rn rs rf be fh oh (-1 : Int32) r24 u24_rf q24) gX3_breaks_X3_refuse rfl dX3_breaks_24 (by decide +kernel) ⟨⟨rfl, rfl⟩, ⟨Nat.le_of_ble_eq_true rfl, Nat.le_of_ble_eq_true rfl⟩, Nat.zero_le _, Nat.zero_le _⟩ (JN.whole (w1 := (cX a cI no mi ke hk sg lz rn rs u24_rf be fh oh)) rfl) 0 rfl ⟨rfl, rfl⟩ rfl rfl (Nat.le_of_ble_eq_true rfl) (fun H locs hP hD hS => ?_)
      replace hP : va_P D vwCl (cX a cI no mi ke hk sg lz rn rs u24_rf be fh oh) H := hP
      replace hD : va_D A (cX a cI no mi ke hk sg lz rn rs u24_rf be fh oh) := hD
      obtain ⟨rfl, rfl, rfl⟩ := ret3 h
      exact rI hQ hx hb hr hlocks hAe hP hS rfl rfl dX3_breaks_27
/-! X3_rusts -/
set_option maxHeartbeats 4000000 in
set_option maxRecDepth 100000 in
theorem c_X3_rusts (l : Launch) (D : va_G) (cI : ClassId) (a : Nat → Nat) (no : SV) (mi : SV) (ke : SV) (hk : Int32) (sg : (Nat → Int32)) (lz : Int32) (rn : (Nat → Int32)) (rs : Int32) (rf : (Nat → Int32)) (be : (Nat → Int32)) (fh : (Nat → Int32)) (oh : (Nat → Int32)) (p1 : Int32) (res : Int32) (u_no : SV) (u_rf : (Nat → Int32)) (h : M_X3_rusts no rf p1 = some (res, u_no, u_rf)) : mI l yX3_rusts wsX3_rusts { frames := 3, cells := 0, slots := 0, locals := 63 } D cI [.ref (a 0), .int p1] (cX a cI no mi ke hk sg lz rn rs rf be fh oh) (cX a cI u_no mi ke hk sg lz rn rs u_rf be fh oh) res := by
  intro sz
  refine mStart (cc := cX3_rusts) (maxL := 2) (ret := (some .int)) (own := RX3) (by decide) rfl rfl (Nat.le_of_ble_eq_true rfl) (lv := [(0, .ref (a 0)), (1, .int p1)]) rfl ?_
  intro p e s m args below meth c A ls Q H locs CF hr hlocks hK hP hD hS hA hAe hl hQ
  obtain ⟨hx, hb, hml, hown, hts⟩ := id CF
  have f10 := hts (.fieldLink RX3 10 "MendAnothersBreaking" "now" "LMendAnothersBreaking$State;") (List.mem_of_getElem? (i := 1) rfl)
  have f114 := hts (.fieldLink RX3 114 "MendAnothersBreaking$State" "breakers" "[I") (List.mem_of_getElem? (i := 2) rfl)
  have i2 : ∀ w ∈ wsX20, w ∈ wsX3_rusts := fun w h => List.mem_cons_of_mem _ (List.mem_append_right _ h)
  have i3 : ∀ w ∈ wsX30, w ∈ wsX3_rusts := fun w h => List.mem_cons_of_mem _ (List.mem_append_left _ (List.mem_append_right _ h))
  unfold M_X3_rusts at h
  refine lv_aload_n hx hb dX3_rusts_0 rfl (lv_at hl 0 rfl) ?_
  refine va_get (D := D) (ci := 3) (v := .ref (a 1)) (C := RX3) (T := TX3) (N := 11) hx hb hts i3 hown hK hP 0 rfl rfl 0 (by decide) f10 (fun _ h9 => h9) rfl dX3_rusts_1 ?_
  refine lv_iload_n hx hb dX3_rusts_4 rfl (lv_at hl 1 rfl) ?_
  obtain ⟨r5, q5, h⟩ := bnd1_inv h
  refine kVI (n := 1) (As := [.int p1]) (rest := []) CF hl hK hP hD hS hA (c_X2_isThing l D cI (a 1) (a 2) (a 3) (a 4) (a 5) (a 6) (a 7) (a 8) no p1 r5 q5) gX3_rusts_X2_isThing rfl dX3_rusts_5 (by decide +kernel) ⟨⟨rfl, rfl⟩, ⟨Nat.le_of_ble_eq_true rfl, Nat.le_of_ble_eq_true rfl⟩, Nat.zero_le _, Nat.zero_le _⟩ (JN.ro [1, 2, 3, 4, 5, 6, 7, 8] rfl rfl) 1 rfl ⟨rfl, rfl⟩ rfl rfl (Nat.le_of_ble_eq_true rfl) (fun H locs hP hD hS => ?_)
  refine lv_if_ne (tgt := 17) hx hb dX3_rusts_8 (by decide) (fun c8 => ?_) (fun c8 => ?_)
  · replace h := fx_ite_f c8 h
    refine lv_aload_n hx hb dX3_rusts_17 rfl (lv_at hl 0 rfl) ?_
    refine va_get (D := D) (ci := 3) (v := .ref (a 1)) (C := RX3) (T := TX3) (N := 11) hx hb hts i3 hown hK hP 0 rfl rfl 0 (by decide) f10 (fun _ h9 => h9) rfl dX3_rusts_18 ?_
    refine lv_iload_n hx hb dX3_rusts_21 rfl (lv_at hl 1 rfl) ?_
    obtain ⟨r22, q22, h⟩ := bnd1_inv h
    refine kVI (n := 1) (As := [.int p1]) (rest := []) CF hl hK hP hD hS hA (c_X2_isWhole l D cI (a 1) (a 2) (a 3) (a 4) (a 5) (a 6) (a 7) (a 8) no p1 r22 q22) gX3_rusts_X2_isWhole rfl dX3_rusts_22 (by decide +kernel) ⟨⟨rfl, rfl⟩, ⟨Nat.le_of_ble_eq_true rfl, Nat.le_of_ble_eq_true rfl⟩, Nat.zero_le _, Nat.zero_le _⟩ (JN.ro [1, 2, 3, 4, 5, 6, 7, 8] rfl rfl) 1 rfl ⟨rfl, rfl⟩ rfl rfl (Nat.le_of_ble_eq_true rfl) (fun H locs hP hD hS => ?_)
    refine lv_if_ne (tgt := 35) hx hb dX3_rusts_25 (by decide) (fun c25 => ?_) (fun c25 => ?_)
    · replace h := fx_ite_f c25 h
      refine lv_aload_n hx hb dX3_rusts_35 rfl (lv_at hl 0 rfl) ?_
      refine va_get (D := D) (ci := 3) (v := .ref (a 1)) (C := RX3) (T := TX3) (N := 11) hx hb hts i3 hown hK hP 0 rfl rfl 0 (by decide) f10 (fun _ h9 => h9) rfl dX3_rusts_36 ?_
      refine va_get (D := D) (ci := 2) (v := .ref (a 8)) (C := RX2) (T := TX2) (N := 10) hx hb hts i2 hown hK hP 1 rfl rfl 6 (by decide) f114 (fun _ h9 => h9) rfl dX3_rusts_39 ?_
      refine lv_iload_n hx hb dX3_rusts_42 rfl (lv_at hl 1 rfl) ?_
      refine lv_bipush (v := (-8)) hx hb dX3_rusts_43 (by decide) ?_
      obtain ⟨g45, h⟩ := chk_inv h
      refine va_iast (n := 9) (f := (sBr no)) hx hb hK hP hD hS 8 0 rfl rfl g45 dX3_rusts_45 (fun H locs hP hD hS => ?_)
      replace hP : va_P D vwCl (cX a cI (sUBr no (upd (sBr no) (Int32.toNatClampNeg p1) (-8 : Int32))) mi ke hk sg lz rn rs rf be fh oh) H := hP
      replace hD : va_D A (cX a cI (sUBr no (upd (sBr no) (Int32.toNatClampNeg p1) (-8 : Int32))) mi ke hk sg lz rn rs rf be fh oh) := hD
      refine lv_aload_n hx hb dX3_rusts_46 rfl (lv_at hl 0 rfl) ?_
      refine va_get (D := D) (ci := 3) (v := .ref (a 1)) (C := RX3) (T := TX3) (N := 11) hx hb hts i3 hown hK hP 0 rfl rfl 0 (by decide) f10 (fun _ h9 => h9) rfl dX3_rusts_47 ?_
      obtain ⟨r50, q50, h⟩ := bnd1_inv h
      refine kVI (n := 0) (As := []) (rest := []) CF hl hK hP hD hS hA (c_X2_wholeCount l D cI (a 1) (a 2) (a 3) (a 4) (a 5) (a 6) (a 7) (a 8) (sUBr no (upd (sBr no) (Int32.toNatClampNeg p1) (-8 : Int32)))  r50 q50) gX3_rusts_X2_wholeCount rfl dX3_rusts_50 (by decide +kernel) ⟨⟨rfl, rfl⟩, ⟨Nat.le_of_ble_eq_true rfl, Nat.le_of_ble_eq_true rfl⟩, Nat.zero_le _, Nat.zero_le _⟩ (JN.ro [1, 2, 3, 4, 5, 6, 7, 8] rfl rfl) 1 rfl ⟨rfl, rfl⟩ rfl rfl (Nat.le_of_ble_eq_true rfl) (fun H locs hP hD hS => ?_)
      obtain ⟨rfl, rfl, rfl⟩ := ret3 h
      exact rI hQ hx hb hr hlocks hAe hP hS rfl rfl dX3_rusts_53
    · replace h := fx_ite_t c25 h
      refine lv_aload_n hx hb dX3_rusts_28 rfl (lv_at hl 0 rfl) ?_
      refine lv_bipush (v := (-3)) hx hb dX3_rusts_29 (by decide) ?_
      obtain ⟨r31, u31_rf, q31, h⟩ := bnd2_inv h
      refine kVI (n := 1) (As := [.int (-3 : Int32)]) (rest := []) CF hl hK hP hD hS hA (c_X3_refuse l D cI a no mi ke hk sg lz rn rs rf be fh oh (-3 : Int32) r31 u31_rf q31) gX3_rusts_X3_refuse rfl dX3_rusts_31 (by decide +kernel) ⟨⟨rfl, rfl⟩, ⟨Nat.le_of_ble_eq_true rfl, Nat.le_of_ble_eq_true rfl⟩, Nat.zero_le _, Nat.zero_le _⟩ (JN.whole (w1 := (cX a cI no mi ke hk sg lz rn rs u31_rf be fh oh)) rfl) 0 rfl ⟨rfl, rfl⟩ rfl rfl (Nat.le_of_ble_eq_true rfl) (fun H locs hP hD hS => ?_)
      replace hP : va_P D vwCl (cX a cI no mi ke hk sg lz rn rs u31_rf be fh oh) H := hP
      replace hD : va_D A (cX a cI no mi ke hk sg lz rn rs u31_rf be fh oh) := hD
      obtain ⟨rfl, rfl, rfl⟩ := ret3 h
      exact rI hQ hx hb hr hlocks hAe hP hS rfl rfl dX3_rusts_34
  · replace h := fx_ite_t c8 h
    refine lv_aload_n hx hb dX3_rusts_11 rfl (lv_at hl 0 rfl) ?_
    refine lv_iconst (v := (-1)) hx hb dX3_rusts_12 (by decide) ?_
    obtain ⟨r13, u13_rf, q13, h⟩ := bnd2_inv h
    refine kVI (n := 1) (As := [.int (-1 : Int32)]) (rest := []) CF hl hK hP hD hS hA (c_X3_refuse l D cI a no mi ke hk sg lz rn rs rf be fh oh (-1 : Int32) r13 u13_rf q13) gX3_rusts_X3_refuse rfl dX3_rusts_13 (by decide +kernel) ⟨⟨rfl, rfl⟩, ⟨Nat.le_of_ble_eq_true rfl, Nat.le_of_ble_eq_true rfl⟩, Nat.zero_le _, Nat.zero_le _⟩ (JN.whole (w1 := (cX a cI no mi ke hk sg lz rn rs u13_rf be fh oh)) rfl) 0 rfl ⟨rfl, rfl⟩ rfl rfl (Nat.le_of_ble_eq_true rfl) (fun H locs hP hD hS => ?_)
    replace hP : va_P D vwCl (cX a cI no mi ke hk sg lz rn rs u13_rf be fh oh) H := hP
    replace hD : va_D A (cX a cI no mi ke hk sg lz rn rs u13_rf be fh oh) := hD
    obtain ⟨rfl, rfl, rfl⟩ := ret3 h
    exact rI hQ hx hb hr hlocks hAe hP hS rfl rfl dX3_rusts_16
/-! X3_says -/
set_option maxHeartbeats 4000000 in
set_option maxRecDepth 100000 in
theorem c_X3_says (l : Launch) (D : va_G) (cI : ClassId) (a : Nat → Nat) (no : SV) (mi : SV) (ke : SV) (hk : Int32) (sg : (Nat → Int32)) (lz : Int32) (rn : (Nat → Int32)) (rs : Int32) (rf : (Nat → Int32)) (be : (Nat → Int32)) (fh : (Nat → Int32)) (oh : (Nat → Int32)) (p1 : Int32) (p2 : Int32) (res : Int32) (u_no : SV) (u_rf : (Nat → Int32)) (h : M_X3_says no rf p1 p2 = some (res, u_no, u_rf)) : mI l yX3_says wsX3_says { frames := 4, cells := 0, slots := 0, locals := 91 } D cI [.ref (a 0), .int p1, .int p2] (cX a cI no mi ke hk sg lz rn rs rf be fh oh) (cX a cI u_no mi ke hk sg lz rn rs u_rf be fh oh) res := by
  intro sz
  refine mStart (cc := cX3_says) (maxL := 3) (ret := (some .int)) (own := RX3) (by decide) rfl rfl (Nat.le_of_ble_eq_true rfl) (lv := [(0, .ref (a 0)), (1, .int p1), (2, .int p2)]) rfl ?_
  intro p e s m args below meth c A ls Q H locs CF hr hlocks hK hP hD hS hA hAe hl hQ
  obtain ⟨hx, hb, hml, hown, hts⟩ := id CF
  have f10 := hts (.fieldLink RX3 10 "MendAnothersBreaking" "now" "LMendAnothersBreaking$State;") (List.mem_of_getElem? (i := 1) rfl)
  have f114 := hts (.fieldLink RX3 114 "MendAnothersBreaking$State" "breakers" "[I") (List.mem_of_getElem? (i := 2) rfl)
  have i2 : ∀ w ∈ wsX20, w ∈ wsX3_says := fun w h => List.mem_cons_of_mem _ (List.mem_append_right _ h)
  have i3 : ∀ w ∈ wsX30, w ∈ wsX3_says := fun w h => List.mem_cons_of_mem _ (List.mem_append_left _ (List.mem_append_right _ h))
  unfold M_X3_says at h
  refine lv_aload_n hx hb dX3_says_0 rfl (lv_at hl 0 rfl) ?_
  refine va_get (D := D) (ci := 3) (v := .ref (a 1)) (C := RX3) (T := TX3) (N := 11) hx hb hts i3 hown hK hP 0 rfl rfl 0 (by decide) f10 (fun _ h9 => h9) rfl dX3_says_1 ?_
  refine lv_iload_n hx hb dX3_says_4 rfl (lv_at hl 1 rfl) ?_
  obtain ⟨r5, q5, h⟩ := bnd1_inv h
  refine kVI (n := 1) (As := [.int p1]) (rest := []) CF hl hK hP hD hS hA (c_X2_isPerson l D cI (a 1) (a 2) (a 3) (a 4) (a 5) (a 6) (a 7) (a 8) no p1 r5 q5) gX3_says_X2_isPerson rfl dX3_says_5 (by decide +kernel) ⟨⟨rfl, rfl⟩, ⟨Nat.le_of_ble_eq_true rfl, Nat.le_of_ble_eq_true rfl⟩, Nat.zero_le _, Nat.zero_le _⟩ (JN.ro [1, 2, 3, 4, 5, 6, 7, 8] rfl rfl) 1 rfl ⟨rfl, rfl⟩ rfl rfl (Nat.le_of_ble_eq_true rfl) (fun H locs hP hD hS => ?_)
  refine lv_if_eq (tgt := 22) hx hb dX3_says_8 (by decide) (fun c8 => ?_) (fun c8 => ?_)
  · replace h := fx_ite_t c8 h
    refine lv_aload_n hx hb dX3_says_22 rfl (lv_at hl 0 rfl) ?_
    refine lv_iconst (v := (-1)) hx hb dX3_says_23 (by decide) ?_
    obtain ⟨r24, u24_rf, q24, h⟩ := bnd2_inv h
    refine kVI (n := 1) (As := [.int (-1 : Int32)]) (rest := []) CF hl hK hP hD hS hA (c_X3_refuse l D cI a no mi ke hk sg lz rn rs rf be fh oh (-1 : Int32) r24 u24_rf q24) gX3_says_X3_refuse rfl dX3_says_24 (by decide +kernel) ⟨⟨rfl, rfl⟩, ⟨Nat.le_of_ble_eq_true rfl, Nat.le_of_ble_eq_true rfl⟩, Nat.zero_le _, Nat.zero_le _⟩ (JN.whole (w1 := (cX a cI no mi ke hk sg lz rn rs u24_rf be fh oh)) rfl) 0 rfl ⟨rfl, rfl⟩ rfl rfl (Nat.le_of_ble_eq_true rfl) (fun H locs hP hD hS => ?_)
    replace hP : va_P D vwCl (cX a cI no mi ke hk sg lz rn rs u24_rf be fh oh) H := hP
    replace hD : va_D A (cX a cI no mi ke hk sg lz rn rs u24_rf be fh oh) := hD
    obtain ⟨rfl, rfl, rfl⟩ := ret3 h
    exact rI hQ hx hb hr hlocks hAe hP hS rfl rfl dX3_says_27
  · replace h := fx_ite_f c8 h
    refine lv_aload_n hx hb dX3_says_11 rfl (lv_at hl 0 rfl) ?_
    refine va_get (D := D) (ci := 3) (v := .ref (a 1)) (C := RX3) (T := TX3) (N := 11) hx hb hts i3 hown hK hP 0 rfl rfl 0 (by decide) f10 (fun _ h9 => h9) rfl dX3_says_12 ?_
    refine lv_iload_n hx hb dX3_says_15 rfl (lv_at hl 2 rfl) ?_
    obtain ⟨r16, q16, h⟩ := bnd1_inv h
    refine kVI (n := 1) (As := [.int p2]) (rest := []) CF hl hK hP hD hS hA (c_X2_isThing l D cI (a 1) (a 2) (a 3) (a 4) (a 5) (a 6) (a 7) (a 8) no p2 r16 q16) gX3_says_X2_isThing rfl dX3_says_16 (by decide +kernel) ⟨⟨rfl, rfl⟩, ⟨Nat.le_of_ble_eq_true rfl, Nat.le_of_ble_eq_true rfl⟩, Nat.zero_le _, Nat.zero_le _⟩ (JN.ro [1, 2, 3, 4, 5, 6, 7, 8] rfl rfl) 1 rfl ⟨rfl, rfl⟩ rfl rfl (Nat.le_of_ble_eq_true rfl) (fun H locs hP hD hS => ?_)
    refine lv_if_ne (tgt := 28) hx hb dX3_says_19 (by decide) (fun c19 => ?_) (fun c19 => ?_)
    · replace h := fx_ite_f c19 h
      refine lv_aload_n hx hb dX3_says_28 rfl (lv_at hl 0 rfl) ?_
      refine va_get (D := D) (ci := 3) (v := .ref (a 1)) (C := RX3) (T := TX3) (N := 11) hx hb hts i3 hown hK hP 0 rfl rfl 0 (by decide) f10 (fun _ h9 => h9) rfl dX3_says_29 ?_
      refine lv_iload_n hx hb dX3_says_32 rfl (lv_at hl 2 rfl) ?_
      obtain ⟨r33, q33, h⟩ := bnd1_inv h
      refine kVI (n := 1) (As := [.int p2]) (rest := []) CF hl hK hP hD hS hA (c_X2_isMourned l D cI (a 1) (a 2) (a 3) (a 4) (a 5) (a 6) (a 7) (a 8) no p2 r33 q33) gX3_says_X2_isMourned rfl dX3_says_33 (by decide +kernel) ⟨⟨rfl, rfl⟩, ⟨Nat.le_of_ble_eq_true rfl, Nat.le_of_ble_eq_true rfl⟩, Nat.zero_le _, Nat.zero_le _⟩ (JN.ro [1, 2, 3, 4, 5, 6, 7, 8] rfl rfl) 1 rfl ⟨rfl, rfl⟩ rfl rfl (Nat.le_of_ble_eq_true rfl) (fun H locs hP hD hS => ?_)
      refine lv_if_ne (tgt := 46) hx hb dX3_says_36 (by decide) (fun c36 => ?_) (fun c36 => ?_)
      · replace h := fx_ite_f c36 h
        refine lv_aload_n hx hb dX3_says_46 rfl (lv_at hl 0 rfl) ?_
        refine va_get (D := D) (ci := 3) (v := .ref (a 1)) (C := RX3) (T := TX3) (N := 11) hx hb hts i3 hown hK hP 0 rfl rfl 0 (by decide) f10 (fun _ h9 => h9) rfl dX3_says_47 ?_
        refine va_get (D := D) (ci := 2) (v := .ref (a 8)) (C := RX2) (T := TX2) (N := 10) hx hb hts i2 hown hK hP 1 rfl rfl 6 (by decide) f114 (fun _ h9 => h9) rfl dX3_says_50 ?_
        refine lv_iload_n hx hb dX3_says_53 rfl (lv_at hl 2 rfl) ?_
        refine lv_iload_n hx hb dX3_says_54 rfl (lv_at hl 1 rfl) ?_
        obtain ⟨g55, h⟩ := chk_inv h
        refine va_iast (n := 9) (f := (sBr no)) hx hb hK hP hD hS 8 0 rfl rfl g55 dX3_says_55 (fun H locs hP hD hS => ?_)
        replace hP : va_P D vwCl (cX a cI (sUBr no (upd (sBr no) (Int32.toNatClampNeg p2) p1)) mi ke hk sg lz rn rs rf be fh oh) H := hP
        replace hD : va_D A (cX a cI (sUBr no (upd (sBr no) (Int32.toNatClampNeg p2) p1)) mi ke hk sg lz rn rs rf be fh oh) := hD
        refine lv_aload_n hx hb dX3_says_56 rfl (lv_at hl 0 rfl) ?_
        refine va_get (D := D) (ci := 3) (v := .ref (a 1)) (C := RX3) (T := TX3) (N := 11) hx hb hts i3 hown hK hP 0 rfl rfl 0 (by decide) f10 (fun _ h9 => h9) rfl dX3_says_57 ?_
        refine lv_iload_n hx hb dX3_says_60 rfl (lv_at hl 2 rfl) ?_
        obtain ⟨r61, q61, h⟩ := bnd1_inv h
        refine kVI (n := 1) (As := [.int p2]) (rest := []) CF hl hK hP hD hS hA (c_X2_mendersNow l D cI (a 1) (a 2) (a 3) (a 4) (a 5) (a 6) (a 7) (a 8) (sUBr no (upd (sBr no) (Int32.toNatClampNeg p2) p1)) p2 r61 q61) gX3_says_X2_mendersNow rfl dX3_says_61 (by decide +kernel) ⟨⟨rfl, rfl⟩, ⟨Nat.le_of_ble_eq_true rfl, Nat.le_of_ble_eq_true rfl⟩, Nat.zero_le _, Nat.zero_le _⟩ (JN.ro [1, 2, 3, 4, 5, 6, 7, 8] rfl rfl) 1 rfl ⟨rfl, rfl⟩ rfl rfl (Nat.le_of_ble_eq_true rfl) (fun H locs hP hD hS => ?_)
        obtain ⟨rfl, rfl, rfl⟩ := ret3 h
        exact rI hQ hx hb hr hlocks hAe hP hS rfl rfl dX3_says_64
      · replace h := fx_ite_t c36 h
        refine lv_aload_n hx hb dX3_says_39 rfl (lv_at hl 0 rfl) ?_
        refine lv_bipush (v := (-3)) hx hb dX3_says_40 (by decide) ?_
        obtain ⟨r42, u42_rf, q42, h⟩ := bnd2_inv h
        refine kVI (n := 1) (As := [.int (-3 : Int32)]) (rest := []) CF hl hK hP hD hS hA (c_X3_refuse l D cI a no mi ke hk sg lz rn rs rf be fh oh (-3 : Int32) r42 u42_rf q42) gX3_says_X3_refuse rfl dX3_says_42 (by decide +kernel) ⟨⟨rfl, rfl⟩, ⟨Nat.le_of_ble_eq_true rfl, Nat.le_of_ble_eq_true rfl⟩, Nat.zero_le _, Nat.zero_le _⟩ (JN.whole (w1 := (cX a cI no mi ke hk sg lz rn rs u42_rf be fh oh)) rfl) 0 rfl ⟨rfl, rfl⟩ rfl rfl (Nat.le_of_ble_eq_true rfl) (fun H locs hP hD hS => ?_)
        replace hP : va_P D vwCl (cX a cI no mi ke hk sg lz rn rs u42_rf be fh oh) H := hP
        replace hD : va_D A (cX a cI no mi ke hk sg lz rn rs u42_rf be fh oh) := hD
        obtain ⟨rfl, rfl, rfl⟩ := ret3 h
        exact rI hQ hx hb hr hlocks hAe hP hS rfl rfl dX3_says_45
    · replace h := fx_ite_t c19 h
      refine lv_aload_n hx hb dX3_says_22 rfl (lv_at hl 0 rfl) ?_
      refine lv_iconst (v := (-1)) hx hb dX3_says_23 (by decide) ?_
      obtain ⟨r24, u24_rf, q24, h⟩ := bnd2_inv h
      refine kVI (n := 1) (As := [.int (-1 : Int32)]) (rest := []) CF hl hK hP hD hS hA (c_X3_refuse l D cI a no mi ke hk sg lz rn rs rf be fh oh (-1 : Int32) r24 u24_rf q24) gX3_says_X3_refuse rfl dX3_says_24 (by decide +kernel) ⟨⟨rfl, rfl⟩, ⟨Nat.le_of_ble_eq_true rfl, Nat.le_of_ble_eq_true rfl⟩, Nat.zero_le _, Nat.zero_le _⟩ (JN.whole (w1 := (cX a cI no mi ke hk sg lz rn rs u24_rf be fh oh)) rfl) 0 rfl ⟨rfl, rfl⟩ rfl rfl (Nat.le_of_ble_eq_true rfl) (fun H locs hP hD hS => ?_)
      replace hP : va_P D vwCl (cX a cI no mi ke hk sg lz rn rs u24_rf be fh oh) H := hP
      replace hD : va_D A (cX a cI no mi ke hk sg lz rn rs u24_rf be fh oh) := hD
      obtain ⟨rfl, rfl, rfl⟩ := ret3 h
      exact rI hQ hx hb hr hlocks hAe hP hS rfl rfl dX3_says_27
