/-! X3_mends -/
set_option maxHeartbeats 4000000 in
set_option maxRecDepth 100000 in
theorem c_X3_mends (l : Launch) (D : va_G) (cI : ClassId) (a : Nat → Nat) (no : SV) (mi : SV) (ke : SV) (hk : Int32) (sg : (Nat → Int32)) (lz : Int32) (rn : (Nat → Int32)) (rs : Int32) (rf : (Nat → Int32)) (be : (Nat → Int32)) (fh : (Nat → Int32)) (oh : (Nat → Int32)) (p1 : Int32) (p2 : Int32) (res : Int32) (u_no : SV) (u_rf : (Nat → Int32)) (h : M_X3_mends no rf p1 p2 = some (res, u_no, u_rf)) : mI l yX3_mends wsX3_mends { frames := 3, cells := 0, slots := 0, locals := 68 } D cI [.ref (a 0), .int p1, .int p2] (cX a cI no mi ke hk sg lz rn rs rf be fh oh) (cX a cI u_no mi ke hk sg lz rn rs u_rf be fh oh) res := by
  intro sz
  refine mStart (cc := cX3_mends) (maxL := 3) (ret := (some .int)) (own := RX3) (by decide) rfl rfl (Nat.le_of_ble_eq_true rfl) (lv := [(0, .ref (a 0)), (1, .int p1), (2, .int p2)]) rfl ?_
  intro p e s m args below meth c A ls Q H locs CF hr hlocks hK hP hD hS hA hAe hl hQ
  obtain ⟨hx, hb, hml, hown, hts⟩ := id CF
  have f10 := hts (.fieldLink RX3 10 "MendAnothersBreaking" "now" "LMendAnothersBreaking$State;") (List.mem_of_getElem? (i := 1) rfl)
  have i3 : ∀ w ∈ wsX30, w ∈ wsX3_mends := fun w h => List.mem_cons_of_mem _ (List.mem_append_left _ (List.mem_append_right _ h))
  unfold M_X3_mends at h
  refine lv_aload_n hx hb dX3_mends_0 rfl (lv_at hl 0 rfl) ?_
  refine va_get (D := D) (ci := 3) (v := .ref (a 1)) (C := RX3) (T := TX3) (N := 11) hx hb hts i3 hown hK hP 0 rfl rfl 0 (by decide) f10 (fun _ h9 => h9) rfl dX3_mends_1 ?_
  refine lv_iload_n hx hb dX3_mends_4 rfl (lv_at hl 1 rfl) ?_
  obtain ⟨r5, q5, h⟩ := bnd1_inv h
  refine kVI (n := 1) (As := [.int p1]) (rest := []) CF hl hK hP hD hS hA (c_X2_isPerson l D cI (a 1) (a 2) (a 3) (a 4) (a 5) (a 6) (a 7) (a 8) no p1 r5 q5) gX3_mends_X2_isPerson rfl dX3_mends_5 (by decide +kernel) ⟨⟨rfl, rfl⟩, ⟨Nat.le_of_ble_eq_true rfl, Nat.le_of_ble_eq_true rfl⟩, Nat.zero_le _, Nat.zero_le _⟩ (JN.ro [1, 2, 3, 4, 5, 6, 7, 8] rfl rfl) 1 rfl ⟨rfl, rfl⟩ rfl rfl (Nat.le_of_ble_eq_true rfl) (fun H locs hP hD hS => ?_)
  refine lv_if_eq (tgt := 22) hx hb dX3_mends_8 (by decide) (fun c8 => ?_) (fun c8 => ?_)
  · replace h := fx_ite_t c8 h
    refine lv_aload_n hx hb dX3_mends_22 rfl (lv_at hl 0 rfl) ?_
    refine lv_iconst (v := (-1)) hx hb dX3_mends_23 (by decide) ?_
    obtain ⟨r24, u24_rf, q24, h⟩ := bnd2_inv h
    refine kVI (n := 1) (As := [.int (-1 : Int32)]) (rest := []) CF hl hK hP hD hS hA (c_X3_refuse l D cI a no mi ke hk sg lz rn rs rf be fh oh (-1 : Int32) r24 u24_rf q24) gX3_mends_X3_refuse rfl dX3_mends_24 (by decide +kernel) ⟨⟨rfl, rfl⟩, ⟨Nat.le_of_ble_eq_true rfl, Nat.le_of_ble_eq_true rfl⟩, Nat.zero_le _, Nat.zero_le _⟩ (JN.whole (w1 := (cX a cI no mi ke hk sg lz rn rs u24_rf be fh oh)) rfl) 0 rfl ⟨rfl, rfl⟩ rfl rfl (Nat.le_of_ble_eq_true rfl) (fun H locs hP hD hS => ?_)
    replace hP : va_P D vwCl (cX a cI no mi ke hk sg lz rn rs u24_rf be fh oh) H := hP
    replace hD : va_D A (cX a cI no mi ke hk sg lz rn rs u24_rf be fh oh) := hD
    obtain ⟨rfl, rfl, rfl⟩ := ret3 h
    exact rI hQ hx hb hr hlocks hAe hP hS rfl rfl dX3_mends_27
  · replace h := fx_ite_f c8 h
    refine lv_aload_n hx hb dX3_mends_11 rfl (lv_at hl 0 rfl) ?_
    refine va_get (D := D) (ci := 3) (v := .ref (a 1)) (C := RX3) (T := TX3) (N := 11) hx hb hts i3 hown hK hP 0 rfl rfl 0 (by decide) f10 (fun _ h9 => h9) rfl dX3_mends_12 ?_
    refine lv_iload_n hx hb dX3_mends_15 rfl (lv_at hl 2 rfl) ?_
    obtain ⟨r16, q16, h⟩ := bnd1_inv h
    refine kVI (n := 1) (As := [.int p2]) (rest := []) CF hl hK hP hD hS hA (c_X2_isThing l D cI (a 1) (a 2) (a 3) (a 4) (a 5) (a 6) (a 7) (a 8) no p2 r16 q16) gX3_mends_X2_isThing rfl dX3_mends_16 (by decide +kernel) ⟨⟨rfl, rfl⟩, ⟨Nat.le_of_ble_eq_true rfl, Nat.le_of_ble_eq_true rfl⟩, Nat.zero_le _, Nat.zero_le _⟩ (JN.ro [1, 2, 3, 4, 5, 6, 7, 8] rfl rfl) 1 rfl ⟨rfl, rfl⟩ rfl rfl (Nat.le_of_ble_eq_true rfl) (fun H locs hP hD hS => ?_)
    refine lv_if_ne (tgt := 28) hx hb dX3_mends_19 (by decide) (fun c19 => ?_) (fun c19 => ?_)
    · replace h := fx_ite_f c19 h
      refine lv_aload_n hx hb dX3_mends_28 rfl (lv_at hl 0 rfl) ?_
      refine va_get (D := D) (ci := 3) (v := .ref (a 1)) (C := RX3) (T := TX3) (N := 11) hx hb hts i3 hown hK hP 0 rfl rfl 0 (by decide) f10 (fun _ h9 => h9) rfl dX3_mends_29 ?_
      refine lv_iload_n hx hb dX3_mends_32 rfl (lv_at hl 1 rfl) ?_
      refine lv_iload_n hx hb dX3_mends_33 rfl (lv_at hl 2 rfl) ?_
      obtain ⟨r34, q34, h⟩ := bnd1_inv h
      refine kVI (n := 2) (As := [.int p1, .int p2]) (rest := []) CF hl hK hP hD hS hA (c_X2_mayMend l D cI (a 1) (a 2) (a 3) (a 4) (a 5) (a 6) (a 7) (a 8) no p1 p2 r34 q34) gX3_mends_X2_mayMend rfl dX3_mends_34 (by decide +kernel) ⟨⟨rfl, rfl⟩, ⟨Nat.le_of_ble_eq_true rfl, Nat.le_of_ble_eq_true rfl⟩, Nat.zero_le _, Nat.zero_le _⟩ (JN.ro [1, 2, 3, 4, 5, 6, 7, 8] rfl rfl) 1 rfl ⟨rfl, rfl⟩ rfl rfl (Nat.le_of_ble_eq_true rfl) (fun H locs hP hD hS => ?_)
      refine lv_if_ne (tgt := 47) hx hb dX3_mends_37 (by decide) (fun c37 => ?_) (fun c37 => ?_)
      · replace h := fx_ite_f c37 h
        refine lv_aload_n hx hb dX3_mends_47 rfl (lv_at hl 0 rfl) ?_
        refine va_get (D := D) (ci := 3) (v := .ref (a 1)) (C := RX3) (T := TX3) (N := 11) hx hb hts i3 hown hK hP 0 rfl rfl 0 (by decide) f10 (fun _ h9 => h9) rfl dX3_mends_48 ?_
        refine lv_iload_n hx hb dX3_mends_51 rfl (lv_at hl 1 rfl) ?_
        refine lv_iload_n hx hb dX3_mends_52 rfl (lv_at hl 2 rfl) ?_
        obtain ⟨u53_no, q53, h⟩ := bnd1_inv h
        refine kVV (n := 2) (As := [.int p1, .int p2]) (rest := []) CF hl hK hP hD hS hA (c_X2_mend l D cI (a 1) (a 2) (a 3) (a 4) (a 5) (a 6) (a 7) (a 8) no p1 p2 u53_no q53) gX3_mends_X2_mend rfl dX3_mends_53 (by decide +kernel) ⟨⟨rfl, rfl⟩, ⟨Nat.le_of_ble_eq_true rfl, Nat.le_of_ble_eq_true rfl⟩, Nat.zero_le _, Nat.zero_le _⟩ (JN.sub (wst' := (cX a cI u53_no mi ke hk sg lz rn rs rf be fh oh)) [1, 2, 3, 4, 5, 6, 7, 8] rfl rfl rfl rfl) 1 rfl ⟨rfl, rfl⟩ rfl rfl (Nat.le_of_ble_eq_true rfl) (fun H locs hP hD hS => ?_)
        replace hP : va_P D vwCl (cX a cI u53_no mi ke hk sg lz rn rs rf be fh oh) H := hP
        replace hD : va_D A (cX a cI u53_no mi ke hk sg lz rn rs rf be fh oh) := hD
        refine lv_aload_n hx hb dX3_mends_56 rfl (lv_at hl 0 rfl) ?_
        refine va_get (D := D) (ci := 3) (v := .ref (a 1)) (C := RX3) (T := TX3) (N := 11) hx hb hts i3 hown hK hP 0 rfl rfl 0 (by decide) f10 (fun _ h9 => h9) rfl dX3_mends_57 ?_
        obtain ⟨r60, q60, h⟩ := bnd1_inv h
        refine kVI (n := 0) (As := []) (rest := []) CF hl hK hP hD hS hA (c_X2_wholeCount l D cI (a 1) (a 2) (a 3) (a 4) (a 5) (a 6) (a 7) (a 8) u53_no  r60 q60) gX3_mends_X2_wholeCount rfl dX3_mends_60 (by decide +kernel) ⟨⟨rfl, rfl⟩, ⟨Nat.le_of_ble_eq_true rfl, Nat.le_of_ble_eq_true rfl⟩, Nat.zero_le _, Nat.zero_le _⟩ (JN.ro [1, 2, 3, 4, 5, 6, 7, 8] rfl rfl) 1 rfl ⟨rfl, rfl⟩ rfl rfl (Nat.le_of_ble_eq_true rfl) (fun H locs hP hD hS => ?_)
        obtain ⟨rfl, rfl, rfl⟩ := ret3 h
        exact rI hQ hx hb hr hlocks hAe hP hS rfl rfl dX3_mends_63
      · replace h := fx_ite_t c37 h
        refine lv_aload_n hx hb dX3_mends_40 rfl (lv_at hl 0 rfl) ?_
        refine lv_bipush (v := (-3)) hx hb dX3_mends_41 (by decide) ?_
        obtain ⟨r43, u43_rf, q43, h⟩ := bnd2_inv h
        refine kVI (n := 1) (As := [.int (-3 : Int32)]) (rest := []) CF hl hK hP hD hS hA (c_X3_refuse l D cI a no mi ke hk sg lz rn rs rf be fh oh (-3 : Int32) r43 u43_rf q43) gX3_mends_X3_refuse rfl dX3_mends_43 (by decide +kernel) ⟨⟨rfl, rfl⟩, ⟨Nat.le_of_ble_eq_true rfl, Nat.le_of_ble_eq_true rfl⟩, Nat.zero_le _, Nat.zero_le _⟩ (JN.whole (w1 := (cX a cI no mi ke hk sg lz rn rs u43_rf be fh oh)) rfl) 0 rfl ⟨rfl, rfl⟩ rfl rfl (Nat.le_of_ble_eq_true rfl) (fun H locs hP hD hS => ?_)
        replace hP : va_P D vwCl (cX a cI no mi ke hk sg lz rn rs u43_rf be fh oh) H := hP
        replace hD : va_D A (cX a cI no mi ke hk sg lz rn rs u43_rf be fh oh) := hD
        obtain ⟨rfl, rfl, rfl⟩ := ret3 h
        exact rI hQ hx hb hr hlocks hAe hP hS rfl rfl dX3_mends_46
    · replace h := fx_ite_t c19 h
      refine lv_aload_n hx hb dX3_mends_22 rfl (lv_at hl 0 rfl) ?_
      refine lv_iconst (v := (-1)) hx hb dX3_mends_23 (by decide) ?_
      obtain ⟨r24, u24_rf, q24, h⟩ := bnd2_inv h
      refine kVI (n := 1) (As := [.int (-1 : Int32)]) (rest := []) CF hl hK hP hD hS hA (c_X3_refuse l D cI a no mi ke hk sg lz rn rs rf be fh oh (-1 : Int32) r24 u24_rf q24) gX3_mends_X3_refuse rfl dX3_mends_24 (by decide +kernel) ⟨⟨rfl, rfl⟩, ⟨Nat.le_of_ble_eq_true rfl, Nat.le_of_ble_eq_true rfl⟩, Nat.zero_le _, Nat.zero_le _⟩ (JN.whole (w1 := (cX a cI no mi ke hk sg lz rn rs u24_rf be fh oh)) rfl) 0 rfl ⟨rfl, rfl⟩ rfl rfl (Nat.le_of_ble_eq_true rfl) (fun H locs hP hD hS => ?_)
      replace hP : va_P D vwCl (cX a cI no mi ke hk sg lz rn rs u24_rf be fh oh) H := hP
      replace hD : va_D A (cX a cI no mi ke hk sg lz rn rs u24_rf be fh oh) := hD
      obtain ⟨rfl, rfl, rfl⟩ := ret3 h
      exact rI hQ hx hb hr hlocks hAe hP hS rfl rfl dX3_mends_27
/-! X3_outside -/
set_option maxHeartbeats 4000000 in
set_option maxRecDepth 100000 in
theorem c_X3_outside (l : Launch) (D : va_G) (cI : ClassId)   (p0 : Int32) (p1 : Int32) (p2 : Int32) (res : Int32) (h : M_X3_outside p0 p1 p2 = some res) : mI l yX3_outside wsX3_outside { frames := 0, cells := 0, slots := 0, locals := 0 } D cI [.int p0, .int p1, .int p2] [] [] res := by
  intro sz
  refine mStart (cc := cX3_outside) (maxL := 3) (ret := (some .int)) (own := RX3) (by decide) rfl rfl (Nat.le_of_ble_eq_true rfl) (lv := [(0, .int p0), (1, .int p1), (2, .int p2)]) rfl ?_
  intro p e s m args below meth c A ls Q H locs CF hr hlocks hK hP hD hS hA hAe hl hQ
  obtain ⟨hx, hb, hml, hown, hts⟩ := id CF
  unfold M_X3_outside at h
  refine lv_iload_n hx hb dX3_outside_0 rfl (lv_at hl 0 rfl) ?_
  refine lv_iload_n hx hb dX3_outside_1 rfl (lv_at hl 1 rfl) ?_
  refine lv_icmp_ge (tgt := 8) hx hb dX3_outside_2 (by decide) (fun c2 => ?_) (fun c2 => ?_)
  · replace h := fx_ite_t c2 h
    refine lv_iload_n hx hb dX3_outside_8 rfl (lv_at hl 0 rfl) ?_
    refine lv_iload_n hx hb dX3_outside_9 rfl (lv_at hl 2 rfl) ?_
    refine lv_icmp_le (tgt := 18) hx hb dX3_outside_10 (by decide) (fun c10 => ?_) (fun c10 => ?_)
    · replace h := fx_ite_t c10 h
      refine lv_iconst (v := 0) hx hb dX3_outside_18 (by decide) ?_
      obtain rfl := ret1 h
      exact rI hQ hx hb hr hlocks hAe hP hS rfl rfl dX3_outside_19
    · replace h := fx_ite_f c10 h
      refine lv_bipush (v := (-6)) hx hb dX3_outside_13 (by decide) ?_
      refine lv_goto (tgt := 19) hx hb dX3_outside_15 (by decide) ?_
      obtain rfl := ret1 h
      exact rI hQ hx hb hr hlocks hAe hP hS rfl rfl dX3_outside_19
  · replace h := fx_ite_f c2 h
    refine lv_bipush (v := (-4)) hx hb dX3_outside_5 (by decide) ?_
    obtain rfl := ret1 h
    exact rI hQ hx hb hr hlocks hAe hP hS rfl rfl dX3_outside_7
/-! X3_wears -/
set_option maxHeartbeats 4000000 in
set_option maxRecDepth 100000 in
theorem c_X3_wears (l : Launch) (D : va_G) (cI : ClassId) (a : Nat → Nat) (no : SV) (mi : SV) (ke : SV) (hk : Int32) (sg : (Nat → Int32)) (lz : Int32) (rn : (Nat → Int32)) (rs : Int32) (rf : (Nat → Int32)) (be : (Nat → Int32)) (fh : (Nat → Int32)) (oh : (Nat → Int32)) (p1 : Int32) (p2 : Int32) (res : Int32) (u_no : SV) (u_rf : (Nat → Int32)) (h : M_X3_wears no rf p1 p2 = some (res, u_no, u_rf)) : mI l yX3_wears wsX3_wears { frames := 1, cells := 0, slots := 0, locals := 22 } D cI [.ref (a 0), .int p1, .int p2] (cX a cI no mi ke hk sg lz rn rs rf be fh oh) (cX a cI u_no mi ke hk sg lz rn rs u_rf be fh oh) res := by
  intro sz
  refine mStart (cc := cX3_wears) (maxL := 5) (ret := (some .int)) (own := RX3) (by decide) rfl rfl (Nat.le_of_ble_eq_true rfl) (lv := [(0, .ref (a 0)), (1, .int p1), (2, .int p2)]) rfl ?_
  intro p e s m args below meth c A ls Q H locs CF hr hlocks hK hP hD hS hA hAe hl hQ
  obtain ⟨hx, hb, hml, hown, hts⟩ := id CF
  have f10 := hts (.fieldLink RX3 10 "MendAnothersBreaking" "now" "LMendAnothersBreaking$State;") (List.mem_of_getElem? (i := 1) rfl)
  have f111 := hts (.fieldLink RX3 111 "MendAnothersBreaking$State" "wear" "[I") (List.mem_of_getElem? (i := 2) rfl)
  have i2 : ∀ w ∈ wsX20, w ∈ wsX3_wears := fun w h => List.mem_cons_of_mem _ (List.mem_append_right _ h)
  have i3 : ∀ w ∈ wsX30, w ∈ wsX3_wears := fun w h => List.mem_cons_of_mem _ (List.mem_append_left _ (List.mem_append_right _ h))
  unfold M_X3_wears at h
  refine lv_aload_n hx hb dX3_wears_0 rfl (lv_at hl 0 rfl) ?_
  refine va_get (D := D) (ci := 3) (v := .ref (a 1)) (C := RX3) (T := TX3) (N := 11) hx hb hts i3 hown hK hP 0 rfl rfl 0 (by decide) f10 (fun _ h9 => h9) rfl dX3_wears_1 ?_
  refine lv_iload_n hx hb dX3_wears_4 rfl (lv_at hl 1 rfl) ?_
  obtain ⟨r5, q5, h⟩ := bnd1_inv h
  refine kVI (n := 1) (As := [.int p1]) (rest := []) CF hl hK hP hD hS hA (c_X2_isThing l D cI (a 1) (a 2) (a 3) (a 4) (a 5) (a 6) (a 7) (a 8) no p1 r5 q5) gX3_wears_X2_isThing rfl dX3_wears_5 (by decide +kernel) ⟨⟨rfl, rfl⟩, ⟨Nat.le_of_ble_eq_true rfl, Nat.le_of_ble_eq_true rfl⟩, Nat.zero_le _, Nat.zero_le _⟩ (JN.ro [1, 2, 3, 4, 5, 6, 7, 8] rfl rfl) 1 rfl ⟨rfl, rfl⟩ rfl rfl (Nat.le_of_ble_eq_true rfl) (fun H locs hP hD hS => ?_)
  refine lv_if_ne (tgt := 17) hx hb dX3_wears_8 (by decide) (fun c8 => ?_) (fun c8 => ?_)
  · replace h := fx_ite_f c8 h
    refine lv_iload_n hx hb dX3_wears_17 rfl (lv_at hl 2 rfl) ?_
    refine lv_iconst (v := 0) hx hb dX3_wears_18 (by decide) ?_
    refine lv_bipush (v := 9) hx hb dX3_wears_19 (by decide) ?_
    obtain ⟨r21, q21, h⟩ := bnd1_inv h
    refine kSI (n := 3) (As := [.int p2, .int (0 : Int32), .int (9 : Int32)]) (rest := []) CF hl hK hP hD hS hA (c_X3_outside l D cI   p2 (0 : Int32) (9 : Int32) r21 q21) gX3_wears_X3_outside rfl dX3_wears_21 (by decide +kernel) ⟨⟨rfl, rfl⟩, ⟨Nat.le_of_ble_eq_true rfl, Nat.le_of_ble_eq_true rfl⟩, Nat.zero_le _, Nat.zero_le _⟩ (JN.ro [] rfl rfl) rfl rfl (Nat.le_of_ble_eq_true rfl) (fun H locs hP hD hS => ?_)
    refine lv_istore_n (lv' := [(3, .int r21), (0, .ref (a 0)), (1, .int p1), (2, .int p2)]) hx hb dX3_wears_24 rfl hl (by decide) rfl (fun ls hl => ?_)
    refine lv_iload_n hx hb dX3_wears_25 rfl (lv_at hl 0 rfl) ?_
    refine lv_if_eq (tgt := 35) hx hb dX3_wears_26 (by decide) (fun c26 => ?_) (fun c26 => ?_)
    · replace h := fx_ite_t c26 h
      refine lv_aload_n hx hb dX3_wears_35 rfl (lv_at hl 1 rfl) ?_
      refine va_get (D := D) (ci := 3) (v := .ref (a 1)) (C := RX3) (T := TX3) (N := 11) hx hb hts i3 hown hK hP 0 rfl rfl 0 (by decide) f10 (fun _ h9 => h9) rfl dX3_wears_36 ?_
      refine va_get (D := D) (ci := 2) (v := .ref (a 7)) (C := RX2) (T := TX2) (N := 10) hx hb hts i2 hown hK hP 1 rfl rfl 5 (by decide) f111 (fun _ h9 => h9) rfl dX3_wears_39 ?_
      refine lv_iload_n hx hb dX3_wears_42 rfl (lv_at hl 2 rfl) ?_
      obtain ⟨g43, h⟩ := chk_inv h
      refine va_iald (n := 9) (f := (sWe no)) hx hb hK hP 7 0 rfl rfl g43 dX3_wears_43 ?_
      refine lv_istore (lv' := [(4, .int ((sWe no) (Int32.toNatClampNeg p1))), (3, .int r21), (0, .ref (a 0)), (1, .int p1), (2, .int p2)]) hx hb dX3_wears_44 hl (by decide) rfl (fun ls hl => ?_)
      refine lv_aload_n hx hb dX3_wears_46 rfl (lv_at hl 2 rfl) ?_
      refine va_get (D := D) (ci := 3) (v := .ref (a 1)) (C := RX3) (T := TX3) (N := 11) hx hb hts i3 hown hK hP 0 rfl rfl 0 (by decide) f10 (fun _ h9 => h9) rfl dX3_wears_47 ?_
      refine va_get (D := D) (ci := 2) (v := .ref (a 7)) (C := RX2) (T := TX2) (N := 10) hx hb hts i2 hown hK hP 1 rfl rfl 5 (by decide) f111 (fun _ h9 => h9) rfl dX3_wears_50 ?_
      refine lv_iload_n hx hb dX3_wears_53 rfl (lv_at hl 3 rfl) ?_
      refine lv_iload_n hx hb dX3_wears_54 rfl (lv_at hl 4 rfl) ?_
      obtain ⟨g55, h⟩ := chk_inv h
      refine va_iast (n := 9) (f := (sWe no)) hx hb hK hP hD hS 7 0 rfl rfl g55 dX3_wears_55 (fun H locs hP hD hS => ?_)
      replace hP : va_P D vwCl (cX a cI (sUWe no (upd (sWe no) (Int32.toNatClampNeg p1) p2)) mi ke hk sg lz rn rs rf be fh oh) H := hP
      replace hD : va_D A (cX a cI (sUWe no (upd (sWe no) (Int32.toNatClampNeg p1) p2)) mi ke hk sg lz rn rs rf be fh oh) := hD
      refine lv_iload hx hb dX3_wears_56 (lv_at hl 0 rfl) ?_
      obtain ⟨rfl, rfl, rfl⟩ := ret3 h
      exact rI hQ hx hb hr hlocks hAe hP hS rfl rfl dX3_wears_58
    · replace h := fx_ite_f c26 h
      refine lv_aload_n hx hb dX3_wears_29 rfl (lv_at hl 1 rfl) ?_
      refine lv_iload_n hx hb dX3_wears_30 rfl (lv_at hl 0 rfl) ?_
      obtain ⟨r31, u31_rf, q31, h⟩ := bnd2_inv h
      refine kVI (n := 1) (As := [.int r21]) (rest := []) CF hl hK hP hD hS hA (c_X3_refuse l D cI a no mi ke hk sg lz rn rs rf be fh oh r21 r31 u31_rf q31) gX3_wears_X3_refuse rfl dX3_wears_31 (by decide +kernel) ⟨⟨rfl, rfl⟩, ⟨Nat.le_of_ble_eq_true rfl, Nat.le_of_ble_eq_true rfl⟩, Nat.zero_le _, Nat.zero_le _⟩ (JN.whole (w1 := (cX a cI no mi ke hk sg lz rn rs u31_rf be fh oh)) rfl) 0 rfl ⟨rfl, rfl⟩ rfl rfl (Nat.le_of_ble_eq_true rfl) (fun H locs hP hD hS => ?_)
      replace hP : va_P D vwCl (cX a cI no mi ke hk sg lz rn rs u31_rf be fh oh) H := hP
      replace hD : va_D A (cX a cI no mi ke hk sg lz rn rs u31_rf be fh oh) := hD
      obtain ⟨rfl, rfl, rfl⟩ := ret3 h
      exact rI hQ hx hb hr hlocks hAe hP hS rfl rfl dX3_wears_34
  · replace h := fx_ite_t c8 h
    refine lv_aload_n hx hb dX3_wears_11 rfl (lv_at hl 0 rfl) ?_
    refine lv_iconst (v := (-1)) hx hb dX3_wears_12 (by decide) ?_
    obtain ⟨r13, u13_rf, q13, h⟩ := bnd2_inv h
    refine kVI (n := 1) (As := [.int (-1 : Int32)]) (rest := []) CF hl hK hP hD hS hA (c_X3_refuse l D cI a no mi ke hk sg lz rn rs rf be fh oh (-1 : Int32) r13 u13_rf q13) gX3_wears_X3_refuse rfl dX3_wears_13 (by decide +kernel) ⟨⟨rfl, rfl⟩, ⟨Nat.le_of_ble_eq_true rfl, Nat.le_of_ble_eq_true rfl⟩, Nat.zero_le _, Nat.zero_le _⟩ (JN.whole (w1 := (cX a cI no mi ke hk sg lz rn rs u13_rf be fh oh)) rfl) 0 rfl ⟨rfl, rfl⟩ rfl rfl (Nat.le_of_ble_eq_true rfl) (fun H locs hP hD hS => ?_)
    replace hP : va_P D vwCl (cX a cI no mi ke hk sg lz rn rs u13_rf be fh oh) H := hP
    replace hD : va_D A (cX a cI no mi ke hk sg lz rn rs u13_rf be fh oh) := hD
    obtain ⟨rfl, rfl, rfl⟩ := ret3 h
    exact rI hQ hx hb hr hlocks hAe hP hS rfl rfl dX3_wears_16
/-! X3_skill -/
set_option maxHeartbeats 4000000 in
set_option maxRecDepth 100000 in
theorem c_X3_skill (l : Launch) (D : va_G) (cI : ClassId) (a : Nat → Nat) (no : SV) (mi : SV) (ke : SV) (hk : Int32) (sg : (Nat → Int32)) (lz : Int32) (rn : (Nat → Int32)) (rs : Int32) (rf : (Nat → Int32)) (be : (Nat → Int32)) (fh : (Nat → Int32)) (oh : (Nat → Int32)) (p1 : Int32) (p2 : Int32) (res : Int32) (u_no : SV) (u_rf : (Nat → Int32)) (h : M_X3_skill no rf p1 p2 = some (res, u_no, u_rf)) : mI l yX3_skill wsX3_skill { frames := 1, cells := 0, slots := 0, locals := 22 } D cI [.ref (a 0), .int p1, .int p2] (cX a cI no mi ke hk sg lz rn rs rf be fh oh) (cX a cI u_no mi ke hk sg lz rn rs u_rf be fh oh) res := by
  intro sz
  refine mStart (cc := cX3_skill) (maxL := 5) (ret := (some .int)) (own := RX3) (by decide) rfl rfl (Nat.le_of_ble_eq_true rfl) (lv := [(0, .ref (a 0)), (1, .int p1), (2, .int p2)]) rfl ?_
  intro p e s m args below meth c A ls Q H locs CF hr hlocks hK hP hD hS hA hAe hl hQ
  obtain ⟨hx, hb, hml, hown, hts⟩ := id CF
  have f10 := hts (.fieldLink RX3 10 "MendAnothersBreaking" "now" "LMendAnothersBreaking$State;") (List.mem_of_getElem? (i := 1) rfl)
  have f87 := hts (.fieldLink RX3 87 "MendAnothersBreaking$State" "skills" "[I") (List.mem_of_getElem? (i := 2) rfl)
  have i2 : ∀ w ∈ wsX20, w ∈ wsX3_skill := fun w h => List.mem_cons_of_mem _ (List.mem_append_right _ h)
  have i3 : ∀ w ∈ wsX30, w ∈ wsX3_skill := fun w h => List.mem_cons_of_mem _ (List.mem_append_left _ (List.mem_append_right _ h))
  unfold M_X3_skill at h
  refine lv_aload_n hx hb dX3_skill_0 rfl (lv_at hl 0 rfl) ?_
  refine va_get (D := D) (ci := 3) (v := .ref (a 1)) (C := RX3) (T := TX3) (N := 11) hx hb hts i3 hown hK hP 0 rfl rfl 0 (by decide) f10 (fun _ h9 => h9) rfl dX3_skill_1 ?_
  refine lv_iload_n hx hb dX3_skill_4 rfl (lv_at hl 1 rfl) ?_
  obtain ⟨r5, q5, h⟩ := bnd1_inv h
  refine kVI (n := 1) (As := [.int p1]) (rest := []) CF hl hK hP hD hS hA (c_X2_isPerson l D cI (a 1) (a 2) (a 3) (a 4) (a 5) (a 6) (a 7) (a 8) no p1 r5 q5) gX3_skill_X2_isPerson rfl dX3_skill_5 (by decide +kernel) ⟨⟨rfl, rfl⟩, ⟨Nat.le_of_ble_eq_true rfl, Nat.le_of_ble_eq_true rfl⟩, Nat.zero_le _, Nat.zero_le _⟩ (JN.ro [1, 2, 3, 4, 5, 6, 7, 8] rfl rfl) 1 rfl ⟨rfl, rfl⟩ rfl rfl (Nat.le_of_ble_eq_true rfl) (fun H locs hP hD hS => ?_)
  refine lv_if_ne (tgt := 17) hx hb dX3_skill_8 (by decide) (fun c8 => ?_) (fun c8 => ?_)
  · replace h := fx_ite_f c8 h
    refine lv_iload_n hx hb dX3_skill_17 rfl (lv_at hl 2 rfl) ?_
    refine lv_iconst (v := 0) hx hb dX3_skill_18 (by decide) ?_
    refine lv_bipush (v := 9) hx hb dX3_skill_19 (by decide) ?_
    obtain ⟨r21, q21, h⟩ := bnd1_inv h
    refine kSI (n := 3) (As := [.int p2, .int (0 : Int32), .int (9 : Int32)]) (rest := []) CF hl hK hP hD hS hA (c_X3_outside l D cI   p2 (0 : Int32) (9 : Int32) r21 q21) gX3_skill_X3_outside rfl dX3_skill_21 (by decide +kernel) ⟨⟨rfl, rfl⟩, ⟨Nat.le_of_ble_eq_true rfl, Nat.le_of_ble_eq_true rfl⟩, Nat.zero_le _, Nat.zero_le _⟩ (JN.ro [] rfl rfl) rfl rfl (Nat.le_of_ble_eq_true rfl) (fun H locs hP hD hS => ?_)
    refine lv_istore_n (lv' := [(3, .int r21), (0, .ref (a 0)), (1, .int p1), (2, .int p2)]) hx hb dX3_skill_24 rfl hl (by decide) rfl (fun ls hl => ?_)
    refine lv_iload_n hx hb dX3_skill_25 rfl (lv_at hl 0 rfl) ?_
    refine lv_if_eq (tgt := 35) hx hb dX3_skill_26 (by decide) (fun c26 => ?_) (fun c26 => ?_)
    · replace h := fx_ite_t c26 h
      refine lv_aload_n hx hb dX3_skill_35 rfl (lv_at hl 1 rfl) ?_
      refine va_get (D := D) (ci := 3) (v := .ref (a 1)) (C := RX3) (T := TX3) (N := 11) hx hb hts i3 hown hK hP 0 rfl rfl 0 (by decide) f10 (fun _ h9 => h9) rfl dX3_skill_36 ?_
      refine va_get (D := D) (ci := 2) (v := .ref (a 2)) (C := RX2) (T := TX2) (N := 10) hx hb hts i2 hown hK hP 1 rfl rfl 0 (by decide) f87 (fun _ h9 => h9) rfl dX3_skill_39 ?_
      refine lv_iload_n hx hb dX3_skill_42 rfl (lv_at hl 2 rfl) ?_
      obtain ⟨g43, h⟩ := chk_inv h
      refine va_iald (n := 6) (f := (sSk no)) hx hb hK hP 2 0 rfl rfl g43 dX3_skill_43 ?_
      refine lv_istore (lv' := [(4, .int ((sSk no) (Int32.toNatClampNeg p1))), (3, .int r21), (0, .ref (a 0)), (1, .int p1), (2, .int p2)]) hx hb dX3_skill_44 hl (by decide) rfl (fun ls hl => ?_)
      refine lv_aload_n hx hb dX3_skill_46 rfl (lv_at hl 2 rfl) ?_
      refine va_get (D := D) (ci := 3) (v := .ref (a 1)) (C := RX3) (T := TX3) (N := 11) hx hb hts i3 hown hK hP 0 rfl rfl 0 (by decide) f10 (fun _ h9 => h9) rfl dX3_skill_47 ?_
      refine va_get (D := D) (ci := 2) (v := .ref (a 2)) (C := RX2) (T := TX2) (N := 10) hx hb hts i2 hown hK hP 1 rfl rfl 0 (by decide) f87 (fun _ h9 => h9) rfl dX3_skill_50 ?_
      refine lv_iload_n hx hb dX3_skill_53 rfl (lv_at hl 3 rfl) ?_
      refine lv_iload_n hx hb dX3_skill_54 rfl (lv_at hl 4 rfl) ?_
      obtain ⟨g55, h⟩ := chk_inv h
      refine va_iast (n := 6) (f := (sSk no)) hx hb hK hP hD hS 2 0 rfl rfl g55 dX3_skill_55 (fun H locs hP hD hS => ?_)
      replace hP : va_P D vwCl (cX a cI (sUSk no (upd (sSk no) (Int32.toNatClampNeg p1) p2)) mi ke hk sg lz rn rs rf be fh oh) H := hP
      replace hD : va_D A (cX a cI (sUSk no (upd (sSk no) (Int32.toNatClampNeg p1) p2)) mi ke hk sg lz rn rs rf be fh oh) := hD
      refine lv_iload hx hb dX3_skill_56 (lv_at hl 0 rfl) ?_
      obtain ⟨rfl, rfl, rfl⟩ := ret3 h
      exact rI hQ hx hb hr hlocks hAe hP hS rfl rfl dX3_skill_58
    · replace h := fx_ite_f c26 h
      refine lv_aload_n hx hb dX3_skill_29 rfl (lv_at hl 1 rfl) ?_
      refine lv_iload_n hx hb dX3_skill_30 rfl (lv_at hl 0 rfl) ?_
      obtain ⟨r31, u31_rf, q31, h⟩ := bnd2_inv h
      refine kVI (n := 1) (As := [.int r21]) (rest := []) CF hl hK hP hD hS hA (c_X3_refuse l D cI a no mi ke hk sg lz rn rs rf be fh oh r21 r31 u31_rf q31) gX3_skill_X3_refuse rfl dX3_skill_31 (by decide +kernel) ⟨⟨rfl, rfl⟩, ⟨Nat.le_of_ble_eq_true rfl, Nat.le_of_ble_eq_true rfl⟩, Nat.zero_le _, Nat.zero_le _⟩ (JN.whole (w1 := (cX a cI no mi ke hk sg lz rn rs u31_rf be fh oh)) rfl) 0 rfl ⟨rfl, rfl⟩ rfl rfl (Nat.le_of_ble_eq_true rfl) (fun H locs hP hD hS => ?_)
      replace hP : va_P D vwCl (cX a cI no mi ke hk sg lz rn rs u31_rf be fh oh) H := hP
      replace hD : va_D A (cX a cI no mi ke hk sg lz rn rs u31_rf be fh oh) := hD
      obtain ⟨rfl, rfl, rfl⟩ := ret3 h
      exact rI hQ hx hb hr hlocks hAe hP hS rfl rfl dX3_skill_34
  · replace h := fx_ite_t c8 h
    refine lv_aload_n hx hb dX3_skill_11 rfl (lv_at hl 0 rfl) ?_
    refine lv_iconst (v := (-1)) hx hb dX3_skill_12 (by decide) ?_
    obtain ⟨r13, u13_rf, q13, h⟩ := bnd2_inv h
    refine kVI (n := 1) (As := [.int (-1 : Int32)]) (rest := []) CF hl hK hP hD hS hA (c_X3_refuse l D cI a no mi ke hk sg lz rn rs rf be fh oh (-1 : Int32) r13 u13_rf q13) gX3_skill_X3_refuse rfl dX3_skill_13 (by decide +kernel) ⟨⟨rfl, rfl⟩, ⟨Nat.le_of_ble_eq_true rfl, Nat.le_of_ble_eq_true rfl⟩, Nat.zero_le _, Nat.zero_le _⟩ (JN.whole (w1 := (cX a cI no mi ke hk sg lz rn rs u13_rf be fh oh)) rfl) 0 rfl ⟨rfl, rfl⟩ rfl rfl (Nat.le_of_ble_eq_true rfl) (fun H locs hP hD hS => ?_)
    replace hP : va_P D vwCl (cX a cI no mi ke hk sg lz rn rs u13_rf be fh oh) H := hP
    replace hD : va_D A (cX a cI no mi ke hk sg lz rn rs u13_rf be fh oh) := hD
    obtain ⟨rfl, rfl, rfl⟩ := ret3 h
    exact rI hQ hx hb hr hlocks hAe hP hS rfl rfl dX3_skill_16
/-! X3_turn -/
set_option maxHeartbeats 4000000 in
set_option maxRecDepth 100000 in
theorem c_X3_turn (l : Launch) (D : va_G) (cI : ClassId) (a : Nat → Nat) (no : SV) (mi : SV) (ke : SV) (hk : Int32) (sg : (Nat → Int32)) (lz : Int32) (rn : (Nat → Int32)) (rs : Int32) (rf : (Nat → Int32)) (be : (Nat → Int32)) (fh : (Nat → Int32)) (oh : (Nat → Int32)) (p1 : Int32) (p2 : Int32) (p3 : Int32) (res : Int32) (u_no : SV) (u_rf : (Nat → Int32)) (h : M_X3_turn no rf p1 p2 p3 = some (res, u_no, u_rf)) : mI l yX3_turn wsX3_turn { frames := 1, cells := 0, slots := 0, locals := 22 } D cI [.ref (a 0), .int p1, .int p2, .int p3] (cX a cI no mi ke hk sg lz rn rs rf be fh oh) (cX a cI u_no mi ke hk sg lz rn rs u_rf be fh oh) res := by
  intro sz
  refine mStart (cc := cX3_turn) (maxL := 6) (ret := (some .int)) (own := RX3) (by decide) rfl rfl (Nat.le_of_ble_eq_true rfl) (lv := [(0, .ref (a 0)), (1, .int p1), (2, .int p2), (3, .int p3)]) rfl ?_
  intro p e s m args below meth c A ls Q H locs CF hr hlocks hK hP hD hS hA hAe hl hQ
  obtain ⟨hx, hb, hml, hown, hts⟩ := id CF
  have f10 := hts (.fieldLink RX3 10 "MendAnothersBreaking" "now" "LMendAnothersBreaking$State;") (List.mem_of_getElem? (i := 1) rfl)
  have f102 := hts (.fieldLink RX3 102 "MendAnothersBreaking$State" "kinds" "[I") (List.mem_of_getElem? (i := 2) rfl)
  have f105 := hts (.fieldLink RX3 105 "MendAnothersBreaking$State" "figures" "[I") (List.mem_of_getElem? (i := 3) rfl)
  have i2 : ∀ w ∈ wsX20, w ∈ wsX3_turn := fun w h => List.mem_cons_of_mem _ (List.mem_append_right _ h)
  have i3 : ∀ w ∈ wsX30, w ∈ wsX3_turn := fun w h => List.mem_cons_of_mem _ (List.mem_append_left _ (List.mem_append_right _ h))
  unfold M_X3_turn at h
  refine lv_aload_n hx hb dX3_turn_0 rfl (lv_at hl 0 rfl) ?_
  refine va_get (D := D) (ci := 3) (v := .ref (a 1)) (C := RX3) (T := TX3) (N := 11) hx hb hts i3 hown hK hP 0 rfl rfl 0 (by decide) f10 (fun _ h9 => h9) rfl dX3_turn_1 ?_
  refine lv_iload_n hx hb dX3_turn_4 rfl (lv_at hl 1 rfl) ?_
  obtain ⟨r5, q5, h⟩ := bnd1_inv h
  refine kVI (n := 1) (As := [.int p1]) (rest := []) CF hl hK hP hD hS hA (c_X2_isThing l D cI (a 1) (a 2) (a 3) (a 4) (a 5) (a 6) (a 7) (a 8) no p1 r5 q5) gX3_turn_X2_isThing rfl dX3_turn_5 (by decide +kernel) ⟨⟨rfl, rfl⟩, ⟨Nat.le_of_ble_eq_true rfl, Nat.le_of_ble_eq_true rfl⟩, Nat.zero_le _, Nat.zero_le _⟩ (JN.ro [1, 2, 3, 4, 5, 6, 7, 8] rfl rfl) 1 rfl ⟨rfl, rfl⟩ rfl rfl (Nat.le_of_ble_eq_true rfl) (fun H locs hP hD hS => ?_)
  refine lv_if_ne (tgt := 17) hx hb dX3_turn_8 (by decide) (fun c8 => ?_) (fun c8 => ?_)
  · replace h := fx_ite_f c8 h
    refine lv_iload_n hx hb dX3_turn_17 rfl (lv_at hl 2 rfl) ?_
    refine lv_if_lt (tgt := 27) hx hb dX3_turn_18 (by decide) (fun c18 => ?_) (fun c18 => ?_)
    · replace h := fx_ite_t c18 h
      refine lv_aload_n hx hb dX3_turn_27 rfl (lv_at hl 0 rfl) ?_
      refine lv_bipush (v := (-2)) hx hb dX3_turn_28 (by decide) ?_
      obtain ⟨r30, u30_rf, q30, h⟩ := bnd2_inv h
      refine kVI (n := 1) (As := [.int (-2 : Int32)]) (rest := []) CF hl hK hP hD hS hA (c_X3_refuse l D cI a no mi ke hk sg lz rn rs rf be fh oh (-2 : Int32) r30 u30_rf q30) gX3_turn_X3_refuse rfl dX3_turn_30 (by decide +kernel) ⟨⟨rfl, rfl⟩, ⟨Nat.le_of_ble_eq_true rfl, Nat.le_of_ble_eq_true rfl⟩, Nat.zero_le _, Nat.zero_le _⟩ (JN.whole (w1 := (cX a cI no mi ke hk sg lz rn rs u30_rf be fh oh)) rfl) 0 rfl ⟨rfl, rfl⟩ rfl rfl (Nat.le_of_ble_eq_true rfl) (fun H locs hP hD hS => ?_)
      replace hP : va_P D vwCl (cX a cI no mi ke hk sg lz rn rs u30_rf be fh oh) H := hP
      replace hD : va_D A (cX a cI no mi ke hk sg lz rn rs u30_rf be fh oh) := hD
      obtain ⟨rfl, rfl, rfl⟩ := ret3 h
      exact rI hQ hx hb hr hlocks hAe hP hS rfl rfl dX3_turn_33
    · replace h := fx_ite_f c18 h
      refine lv_iload_n hx hb dX3_turn_21 rfl (lv_at hl 2 rfl) ?_
      refine lv_bipush (v := 6) hx hb dX3_turn_22 (by decide) ?_
      refine lv_icmp_lt (tgt := 34) hx hb dX3_turn_24 (by decide) (fun c24 => ?_) (fun c24 => ?_)
      · replace h := fx_ite_t c24 h
        refine lv_iload_n hx hb dX3_turn_34 rfl (lv_at hl 3 rfl) ?_
        refine lv_iconst (v := 0) hx hb dX3_turn_35 (by decide) ?_
        refine lv_bipush (v := 9) hx hb dX3_turn_36 (by decide) ?_
        obtain ⟨r38, q38, h⟩ := bnd1_inv h
        refine kSI (n := 3) (As := [.int p3, .int (0 : Int32), .int (9 : Int32)]) (rest := []) CF hl hK hP hD hS hA (c_X3_outside l D cI   p3 (0 : Int32) (9 : Int32) r38 q38) gX3_turn_X3_outside rfl dX3_turn_38 (by decide +kernel) ⟨⟨rfl, rfl⟩, ⟨Nat.le_of_ble_eq_true rfl, Nat.le_of_ble_eq_true rfl⟩, Nat.zero_le _, Nat.zero_le _⟩ (JN.ro [] rfl rfl) rfl rfl (Nat.le_of_ble_eq_true rfl) (fun H locs hP hD hS => ?_)
        refine lv_istore (lv' := [(4, .int r38), (0, .ref (a 0)), (1, .int p1), (2, .int p2), (3, .int p3)]) hx hb dX3_turn_41 hl (by decide) rfl (fun ls hl => ?_)
        refine lv_iload hx hb dX3_turn_43 (lv_at hl 0 rfl) ?_
        refine lv_if_eq (tgt := 55) hx hb dX3_turn_45 (by decide) (fun c45 => ?_) (fun c45 => ?_)
        · replace h := fx_ite_t c45 h
          refine lv_bipush (v := 10) hx hb dX3_turn_55 (by decide) ?_
          refine lv_aload_n hx hb dX3_turn_57 rfl (lv_at hl 1 rfl) ?_
          refine va_get (D := D) (ci := 3) (v := .ref (a 1)) (C := RX3) (T := TX3) (N := 11) hx hb hts i3 hown hK hP 0 rfl rfl 0 (by decide) f10 (fun _ h9 => h9) rfl dX3_turn_58 ?_
          refine va_get (D := D) (ci := 2) (v := .ref (a 4)) (C := RX2) (T := TX2) (N := 10) hx hb hts i2 hown hK hP 1 rfl rfl 2 (by decide) f102 (fun _ h9 => h9) rfl dX3_turn_61 ?_
          refine lv_iload_n hx hb dX3_turn_64 rfl (lv_at hl 2 rfl) ?_
          obtain ⟨g65, h⟩ := chk_inv h
          refine va_iald (n := 9) (f := (sKi no)) hx hb hK hP 4 0 rfl rfl g65 dX3_turn_65 ?_
          refine lv_imul hx hb dX3_turn_66 ?_
          refine lv_aload_n hx hb dX3_turn_67 rfl (lv_at hl 1 rfl) ?_
          refine va_get (D := D) (ci := 3) (v := .ref (a 1)) (C := RX3) (T := TX3) (N := 11) hx hb hts i3 hown hK hP 0 rfl rfl 0 (by decide) f10 (fun _ h9 => h9) rfl dX3_turn_68 ?_
          refine va_get (D := D) (ci := 2) (v := .ref (a 5)) (C := RX2) (T := TX2) (N := 10) hx hb hts i2 hown hK hP 1 rfl rfl 3 (by decide) f105 (fun _ h9 => h9) rfl dX3_turn_71 ?_
          refine lv_iload_n hx hb dX3_turn_74 rfl (lv_at hl 2 rfl) ?_
          obtain ⟨g75, h⟩ := chk_inv h
          refine va_iald (n := 9) (f := (sFi no)) hx hb hK hP 5 0 rfl rfl g75 dX3_turn_75 ?_
          refine lv_iadd hx hb dX3_turn_76 ?_
          refine lv_istore (lv' := [(5, .int (((10 : Int32) * ((sKi no) (Int32.toNatClampNeg p1))) + ((sFi no) (Int32.toNatClampNeg p1)))), (4, .int r38), (0, .ref (a 0)), (1, .int p1), (2, .int p2), (3, .int p3)]) hx hb dX3_turn_77 hl (by decide) rfl (fun ls hl => ?_)
          refine lv_aload_n hx hb dX3_turn_79 rfl (lv_at hl 2 rfl) ?_
          refine va_get (D := D) (ci := 3) (v := .ref (a 1)) (C := RX3) (T := TX3) (N := 11) hx hb hts i3 hown hK hP 0 rfl rfl 0 (by decide) f10 (fun _ h9 => h9) rfl dX3_turn_80 ?_
          refine va_get (D := D) (ci := 2) (v := .ref (a 4)) (C := RX2) (T := TX2) (N := 10) hx hb hts i2 hown hK hP 1 rfl rfl 2 (by decide) f102 (fun _ h9 => h9) rfl dX3_turn_83 ?_
          refine lv_iload_n hx hb dX3_turn_86 rfl (lv_at hl 3 rfl) ?_
          refine lv_iload_n hx hb dX3_turn_87 rfl (lv_at hl 4 rfl) ?_
          obtain ⟨g88, h⟩ := chk_inv h
          refine va_iast (n := 9) (f := (sKi no)) hx hb hK hP hD hS 4 0 rfl rfl g88 dX3_turn_88 (fun H locs hP hD hS => ?_)
          replace hP : va_P D vwCl (cX a cI (sUKi no (upd (sKi no) (Int32.toNatClampNeg p1) p2)) mi ke hk sg lz rn rs rf be fh oh) H := hP
          replace hD : va_D A (cX a cI (sUKi no (upd (sKi no) (Int32.toNatClampNeg p1) p2)) mi ke hk sg lz rn rs rf be fh oh) := hD
          refine lv_aload_n hx hb dX3_turn_89 rfl (lv_at hl 2 rfl) ?_
          refine va_get (D := D) (ci := 3) (v := .ref (a 1)) (C := RX3) (T := TX3) (N := 11) hx hb hts i3 hown hK hP 0 rfl rfl 0 (by decide) f10 (fun _ h9 => h9) rfl dX3_turn_90 ?_
          refine va_get (D := D) (ci := 2) (v := .ref (a 5)) (C := RX2) (T := TX2) (N := 10) hx hb hts i2 hown hK hP 1 rfl rfl 3 (by decide) f105 (fun _ h9 => h9) rfl dX3_turn_93 ?_
          refine lv_iload_n hx hb dX3_turn_96 rfl (lv_at hl 3 rfl) ?_
          refine lv_iload_n hx hb dX3_turn_97 rfl (lv_at hl 5 rfl) ?_
          obtain ⟨g98, h⟩ := chk_inv h
          refine va_iast (n := 9) (f := (sFi no)) hx hb hK hP hD hS 5 0 rfl rfl g98 dX3_turn_98 (fun H locs hP hD hS => ?_)
          replace hP : va_P D vwCl (cX a cI (sUFi (sUKi no (upd (sKi no) (Int32.toNatClampNeg p1) p2)) (upd (sFi no) (Int32.toNatClampNeg p1) p3)) mi ke hk sg lz rn rs rf be fh oh) H := hP
          replace hD : va_D A (cX a cI (sUFi (sUKi no (upd (sKi no) (Int32.toNatClampNeg p1) p2)) (upd (sFi no) (Int32.toNatClampNeg p1) p3)) mi ke hk sg lz rn rs rf be fh oh) := hD
          refine lv_iload hx hb dX3_turn_99 (lv_at hl 0 rfl) ?_
          obtain ⟨rfl, rfl, rfl⟩ := ret3 h
          exact rI hQ hx hb hr hlocks hAe hP hS rfl rfl dX3_turn_101
        · replace h := fx_ite_f c45 h
          refine lv_aload_n hx hb dX3_turn_48 rfl (lv_at hl 1 rfl) ?_
          refine lv_iload hx hb dX3_turn_49 (lv_at hl 0 rfl) ?_
          obtain ⟨r51, u51_rf, q51, h⟩ := bnd2_inv h
          refine kVI (n := 1) (As := [.int r38]) (rest := []) CF hl hK hP hD hS hA (c_X3_refuse l D cI a no mi ke hk sg lz rn rs rf be fh oh r38 r51 u51_rf q51) gX3_turn_X3_refuse rfl dX3_turn_51 (by decide +kernel) ⟨⟨rfl, rfl⟩, ⟨Nat.le_of_ble_eq_true rfl, Nat.le_of_ble_eq_true rfl⟩, Nat.zero_le _, Nat.zero_le _⟩ (JN.whole (w1 := (cX a cI no mi ke hk sg lz rn rs u51_rf be fh oh)) rfl) 0 rfl ⟨rfl, rfl⟩ rfl rfl (Nat.le_of_ble_eq_true rfl) (fun H locs hP hD hS => ?_)
          replace hP : va_P D vwCl (cX a cI no mi ke hk sg lz rn rs u51_rf be fh oh) H := hP
          replace hD : va_D A (cX a cI no mi ke hk sg lz rn rs u51_rf be fh oh) := hD
          obtain ⟨rfl, rfl, rfl⟩ := ret3 h
          exact rI hQ hx hb hr hlocks hAe hP hS rfl rfl dX3_turn_54
      · replace h := fx_ite_f c24 h
        refine lv_aload_n hx hb dX3_turn_27 rfl (lv_at hl 0 rfl) ?_
        refine lv_bipush (v := (-2)) hx hb dX3_turn_28 (by decide) ?_
        obtain ⟨r30, u30_rf, q30, h⟩ := bnd2_inv h
        refine kVI (n := 1) (As := [.int (-2 : Int32)]) (rest := []) CF hl hK hP hD hS hA (c_X3_refuse l D cI a no mi ke hk sg lz rn rs rf be fh oh (-2 : Int32) r30 u30_rf q30) gX3_turn_X3_refuse rfl dX3_turn_30 (by decide +kernel) ⟨⟨rfl, rfl⟩, ⟨Nat.le_of_ble_eq_true rfl, Nat.le_of_ble_eq_true rfl⟩, Nat.zero_le _, Nat.zero_le _⟩ (JN.whole (w1 := (cX a cI no mi ke hk sg lz rn rs u30_rf be fh oh)) rfl) 0 rfl ⟨rfl, rfl⟩ rfl rfl (Nat.le_of_ble_eq_true rfl) (fun H locs hP hD hS => ?_)
        replace hP : va_P D vwCl (cX a cI no mi ke hk sg lz rn rs u30_rf be fh oh) H := hP
        replace hD : va_D A (cX a cI no mi ke hk sg lz rn rs u30_rf be fh oh) := hD
        obtain ⟨rfl, rfl, rfl⟩ := ret3 h
        exact rI hQ hx hb hr hlocks hAe hP hS rfl rfl dX3_turn_33
  · replace h := fx_ite_t c8 h
    refine lv_aload_n hx hb dX3_turn_11 rfl (lv_at hl 0 rfl) ?_
    refine lv_iconst (v := (-1)) hx hb dX3_turn_12 (by decide) ?_
    obtain ⟨r13, u13_rf, q13, h⟩ := bnd2_inv h
    refine kVI (n := 1) (As := [.int (-1 : Int32)]) (rest := []) CF hl hK hP hD hS hA (c_X3_refuse l D cI a no mi ke hk sg lz rn rs rf be fh oh (-1 : Int32) r13 u13_rf q13) gX3_turn_X3_refuse rfl dX3_turn_13 (by decide +kernel) ⟨⟨rfl, rfl⟩, ⟨Nat.le_of_ble_eq_true rfl, Nat.le_of_ble_eq_true rfl⟩, Nat.zero_le _, Nat.zero_le _⟩ (JN.whole (w1 := (cX a cI no mi ke hk sg lz rn rs u13_rf be fh oh)) rfl) 0 rfl ⟨rfl, rfl⟩ rfl rfl (Nat.le_of_ble_eq_true rfl) (fun H locs hP hD hS => ?_)
    replace hP : va_P D vwCl (cX a cI no mi ke hk sg lz rn rs u13_rf be fh oh) H := hP
    replace hD : va_D A (cX a cI no mi ke hk sg lz rn rs u13_rf be fh oh) := hD
    obtain ⟨rfl, rfl, rfl⟩ := ret3 h
    exact rI hQ hx hb hr hlocks hAe hP hS rfl rfl dX3_turn_16
/-! X3_days -/
set_option maxHeartbeats 4000000 in
set_option maxRecDepth 100000 in
theorem c_X3_days (l : Launch) (D : va_G) (cI : ClassId) (a : Nat → Nat) (no : SV) (mi : SV) (ke : SV) (hk : Int32) (sg : (Nat → Int32)) (lz : Int32) (rn : (Nat → Int32)) (rs : Int32) (rf : (Nat → Int32)) (be : (Nat → Int32)) (fh : (Nat → Int32)) (oh : (Nat → Int32)) (p1 : Int32) (res : Int32) (u_no : SV) (u_rf : (Nat → Int32)) (h : M_X3_days no rf p1 = some (res, u_no, u_rf)) : mI l yX3_days wsX3_days { frames := 5, cells := 0, slots := 0, locals := 115 } D cI [.ref (a 0), .int p1] (cX a cI no mi ke hk sg lz rn rs rf be fh oh) (cX a cI u_no mi ke hk sg lz rn rs u_rf be fh oh) res := by
  intro sz
  refine mStart (cc := cX3_days) (maxL := 3) (ret := (some .int)) (own := RX3) (by decide) rfl rfl (Nat.le_of_ble_eq_true rfl) (lv := [(0, .ref (a 0)), (1, .int p1)]) rfl ?_
  intro p e s m args below meth c A ls Q H locs CF hr hlocks hK hP hD hS hA hAe hl hQ
  obtain ⟨hx, hb, hml, hown, hts⟩ := id CF
  have f10 := hts (.fieldLink RX3 10 "MendAnothersBreaking" "now" "LMendAnothersBreaking$State;") (List.mem_of_getElem? (i := 1) rfl)
  have f120 := hts (.fieldLink RX3 120 "MendAnothersBreaking$State" "day" "I") (List.mem_of_getElem? (i := 2) rfl)
  have i2 : ∀ w ∈ wsX20, w ∈ wsX3_days := fun w h => List.mem_cons_of_mem _ (List.mem_append_right _ h)
  have i3 : ∀ w ∈ wsX30, w ∈ wsX3_days := fun w h => List.mem_cons_of_mem _ (List.mem_append_left _ (List.mem_append_right _ h))
  unfold M_X3_days at h
  refine lv_iload_n hx hb dX3_days_0 rfl (lv_at hl 1 rfl) ?_
  refine lv_iconst (v := 1) hx hb dX3_days_1 (by decide) ?_
  refine lv_bipush (v := 60) hx hb dX3_days_2 (by decide) ?_
  obtain ⟨r4, q4, h⟩ := bnd1_inv h
  refine kSI (n := 3) (As := [.int p1, .int (1 : Int32), .int (60 : Int32)]) (rest := []) CF hl hK hP hD hS hA (c_X3_outside l D cI   p1 (1 : Int32) (60 : Int32) r4 q4) gX3_days_X3_outside rfl dX3_days_4 (by decide +kernel) ⟨⟨rfl, rfl⟩, ⟨Nat.le_of_ble_eq_true rfl, Nat.le_of_ble_eq_true rfl⟩, Nat.zero_le _, Nat.zero_le _⟩ (JN.ro [] rfl rfl) rfl rfl (Nat.le_of_ble_eq_true rfl) (fun H locs hP hD hS => ?_)
  refine lv_istore_n (lv' := [(2, .int r4), (0, .ref (a 0)), (1, .int p1)]) hx hb dX3_days_7 rfl hl (by decide) rfl (fun ls hl => ?_)
  refine lv_iload_n hx hb dX3_days_8 rfl (lv_at hl 0 rfl) ?_
  refine lv_if_eq (tgt := 18) hx hb dX3_days_9 (by decide) (fun c9 => ?_) (fun c9 => ?_)
  · replace h := fx_ite_t c9 h
    refine lv_aload_n hx hb dX3_days_18 rfl (lv_at hl 1 rfl) ?_
    refine va_get (D := D) (ci := 3) (v := .ref (a 1)) (C := RX3) (T := TX3) (N := 11) hx hb hts i3 hown hK hP 0 rfl rfl 0 (by decide) f10 (fun _ h9 => h9) rfl dX3_days_19 ?_
    refine va_get (D := D) (ci := 2) (v := .int (sDa no)) (C := RX2) (T := TX2) (N := 10) hx hb hts i2 hown hK hP 1 rfl rfl 9 (by decide) f120 (fun _ h9 => h9) rfl dX3_days_22 ?_
    refine lv_iload_n hx hb dX3_days_25 rfl (lv_at hl 2 rfl) ?_
    refine lv_iadd hx hb dX3_days_26 ?_
    refine lv_sipush (v := 999) hx hb dX3_days_27 (by decide) ?_
    refine lv_icmp_le (tgt := 40) hx hb dX3_days_30 (by decide) (fun c30 => ?_) (fun c30 => ?_)
    · replace h := fx_ite_t c30 h
      refine lv_aload_n hx hb dX3_days_40 rfl (lv_at hl 1 rfl) ?_
      refine va_get (D := D) (ci := 3) (v := .ref (a 1)) (C := RX3) (T := TX3) (N := 11) hx hb hts i3 hown hK hP 0 rfl rfl 0 (by decide) f10 (fun _ h9 => h9) rfl dX3_days_41 ?_
      refine lv_iload_n hx hb dX3_days_44 rfl (lv_at hl 2 rfl) ?_
      refine lv_iconst (v := 1) hx hb dX3_days_45 (by decide) ?_
      refine lv_bipush (v := (-9)) hx hb dX3_days_46 (by decide) ?_
      obtain ⟨u48_no, q48, h⟩ := bnd1_inv h
      refine kVV (n := 3) (As := [.int p1, .int (1 : Int32), .int (-9 : Int32)]) (rest := []) CF hl hK hP hD hS hA (c_X2_pass l D cI (a 1) (a 2) (a 3) (a 4) (a 5) (a 6) (a 7) (a 8) no p1 (1 : Int32) (-9 : Int32) u48_no q48) gX3_days_X2_pass rfl dX3_days_48 (by decide +kernel) ⟨⟨rfl, rfl⟩, ⟨Nat.le_of_ble_eq_true rfl, Nat.le_of_ble_eq_true rfl⟩, Nat.zero_le _, Nat.zero_le _⟩ (JN.sub (wst' := (cX a cI u48_no mi ke hk sg lz rn rs rf be fh oh)) [1, 2, 3, 4, 5, 6, 7, 8] rfl rfl rfl rfl) 1 rfl ⟨rfl, rfl⟩ rfl rfl (Nat.le_of_ble_eq_true rfl) (fun H locs hP hD hS => ?_)
      replace hP : va_P D vwCl (cX a cI u48_no mi ke hk sg lz rn rs rf be fh oh) H := hP
      replace hD : va_D A (cX a cI u48_no mi ke hk sg lz rn rs rf be fh oh) := hD
      refine lv_aload_n hx hb dX3_days_51 rfl (lv_at hl 1 rfl) ?_
      refine va_get (D := D) (ci := 3) (v := .ref (a 1)) (C := RX3) (T := TX3) (N := 11) hx hb hts i3 hown hK hP 0 rfl rfl 0 (by decide) f10 (fun _ h9 => h9) rfl dX3_days_52 ?_
      obtain ⟨r55, q55, h⟩ := bnd1_inv h
      refine kVI (n := 0) (As := []) (rest := []) CF hl hK hP hD hS hA (c_X2_wholeCount l D cI (a 1) (a 2) (a 3) (a 4) (a 5) (a 6) (a 7) (a 8) u48_no  r55 q55) gX3_days_X2_wholeCount rfl dX3_days_55 (by decide +kernel) ⟨⟨rfl, rfl⟩, ⟨Nat.le_of_ble_eq_true rfl, Nat.le_of_ble_eq_true rfl⟩, Nat.zero_le _, Nat.zero_le _⟩ (JN.ro [1, 2, 3, 4, 5, 6, 7, 8] rfl rfl) 1 rfl ⟨rfl, rfl⟩ rfl rfl (Nat.le_of_ble_eq_true rfl) (fun H locs hP hD hS => ?_)
      obtain ⟨rfl, rfl, rfl⟩ := ret3 h
      exact rI hQ hx hb hr hlocks hAe hP hS rfl rfl dX3_days_58
    · replace h := fx_ite_f c30 h
      refine lv_aload_n hx hb dX3_days_33 rfl (lv_at hl 1 rfl) ?_
      refine lv_bipush (v := (-6)) hx hb dX3_days_34 (by decide) ?_
      obtain ⟨r36, u36_rf, q36, h⟩ := bnd2_inv h
      refine kVI (n := 1) (As := [.int (-6 : Int32)]) (rest := []) CF hl hK hP hD hS hA (c_X3_refuse l D cI a no mi ke hk sg lz rn rs rf be fh oh (-6 : Int32) r36 u36_rf q36) gX3_days_X3_refuse rfl dX3_days_36 (by decide +kernel) ⟨⟨rfl, rfl⟩, ⟨Nat.le_of_ble_eq_true rfl, Nat.le_of_ble_eq_true rfl⟩, Nat.zero_le _, Nat.zero_le _⟩ (JN.whole (w1 := (cX a cI no mi ke hk sg lz rn rs u36_rf be fh oh)) rfl) 0 rfl ⟨rfl, rfl⟩ rfl rfl (Nat.le_of_ble_eq_true rfl) (fun H locs hP hD hS => ?_)
      replace hP : va_P D vwCl (cX a cI no mi ke hk sg lz rn rs u36_rf be fh oh) H := hP
      replace hD : va_D A (cX a cI no mi ke hk sg lz rn rs u36_rf be fh oh) := hD
      obtain ⟨rfl, rfl, rfl⟩ := ret3 h
      exact rI hQ hx hb hr hlocks hAe hP hS rfl rfl dX3_days_39
  · replace h := fx_ite_f c9 h
    refine lv_aload_n hx hb dX3_days_12 rfl (lv_at hl 1 rfl) ?_
    refine lv_iload_n hx hb dX3_days_13 rfl (lv_at hl 0 rfl) ?_
    obtain ⟨r14, u14_rf, q14, h⟩ := bnd2_inv h
    refine kVI (n := 1) (As := [.int r4]) (rest := []) CF hl hK hP hD hS hA (c_X3_refuse l D cI a no mi ke hk sg lz rn rs rf be fh oh r4 r14 u14_rf q14) gX3_days_X3_refuse rfl dX3_days_14 (by decide +kernel) ⟨⟨rfl, rfl⟩, ⟨Nat.le_of_ble_eq_true rfl, Nat.le_of_ble_eq_true rfl⟩, Nat.zero_le _, Nat.zero_le _⟩ (JN.whole (w1 := (cX a cI no mi ke hk sg lz rn rs u14_rf be fh oh)) rfl) 0 rfl ⟨rfl, rfl⟩ rfl rfl (Nat.le_of_ble_eq_true rfl) (fun H locs hP hD hS => ?_)
    replace hP : va_P D vwCl (cX a cI no mi ke hk sg lz rn rs u14_rf be fh oh) H := hP
    replace hD : va_D A (cX a cI no mi ke hk sg lz rn rs u14_rf be fh oh) := hD
    obtain ⟨rfl, rfl, rfl⟩ := ret3 h
    exact rI hQ hx hb hr hlocks hAe hP hS rfl rfl dX3_days_17
/-! X3_wholeThen -/
set_option maxHeartbeats 4000000 in
set_option maxRecDepth 100000 in
theorem c_X3_wholeThen (l : Launch) (D : va_G) (cI : ClassId) (a : Nat → Nat) (no : SV) (mi : SV) (ke : SV) (hk : Int32) (sg : (Nat → Int32)) (lz : Int32) (rn : (Nat → Int32)) (rs : Int32) (rf : (Nat → Int32)) (be : (Nat → Int32)) (fh : (Nat → Int32)) (oh : (Nat → Int32)) (p1 : Int32) (res : Int32) (u_mi : SV) (u_rf : (Nat → Int32)) (h : M_X3_wholeThen no mi rf p1 = some (res, u_mi, u_rf)) : mI l yX3_wholeThen wsX3_wholeThen { frames := 5, cells := 0, slots := 0, locals := 115 } D cI [.ref (a 0), .int p1] (cX a cI no mi ke hk sg lz rn rs rf be fh oh) (cX a cI no u_mi ke hk sg lz rn rs u_rf be fh oh) res := by
  intro sz
  refine mStart (cc := cX3_wholeThen) (maxL := 3) (ret := (some .int)) (own := RX3) (by decide) rfl rfl (Nat.le_of_ble_eq_true rfl) (lv := [(0, .ref (a 0)), (1, .int p1)]) rfl ?_
  intro p e s m args below meth c A ls Q H locs CF hr hlocks hK hP hD hS hA hAe hl hQ
  obtain ⟨hx, hb, hml, hown, hts⟩ := id CF
  have f10 := hts (.fieldLink RX3 10 "MendAnothersBreaking" "now" "LMendAnothersBreaking$State;") (List.mem_of_getElem? (i := 2) rfl)
  have f16 := hts (.fieldLink RX3 16 "MendAnothersBreaking" "mind" "LMendAnothersBreaking$State;") (List.mem_of_getElem? (i := 1) rfl)
  have i3 : ∀ w ∈ wsX30, w ∈ wsX3_wholeThen := fun w h => List.mem_cons_of_mem _ (List.mem_append_left _ (List.mem_append_right _ h))
  unfold M_X3_wholeThen at h
  refine lv_iload_n hx hb dX3_wholeThen_0 rfl (lv_at hl 1 rfl) ?_
  refine lv_iconst (v := 0) hx hb dX3_wholeThen_1 (by decide) ?_
  refine lv_bipush (v := 99) hx hb dX3_wholeThen_2 (by decide) ?_
  obtain ⟨r4, q4, h⟩ := bnd1_inv h
  refine kSI (n := 3) (As := [.int p1, .int (0 : Int32), .int (99 : Int32)]) (rest := []) CF hl hK hP hD hS hA (c_X3_outside l D cI   p1 (0 : Int32) (99 : Int32) r4 q4) gX3_wholeThen_X3_outside rfl dX3_wholeThen_4 (by decide +kernel) ⟨⟨rfl, rfl⟩, ⟨Nat.le_of_ble_eq_true rfl, Nat.le_of_ble_eq_true rfl⟩, Nat.zero_le _, Nat.zero_le _⟩ (JN.ro [] rfl rfl) rfl rfl (Nat.le_of_ble_eq_true rfl) (fun H locs hP hD hS => ?_)
  refine lv_istore_n (lv' := [(2, .int r4), (0, .ref (a 0)), (1, .int p1)]) hx hb dX3_wholeThen_7 rfl hl (by decide) rfl (fun ls hl => ?_)
  refine lv_iload_n hx hb dX3_wholeThen_8 rfl (lv_at hl 0 rfl) ?_
  refine lv_if_eq (tgt := 18) hx hb dX3_wholeThen_9 (by decide) (fun c9 => ?_) (fun c9 => ?_)
  · replace h := fx_ite_t c9 h
    refine lv_aload_n hx hb dX3_wholeThen_18 rfl (lv_at hl 1 rfl) ?_
    refine va_get (D := D) (ci := 3) (v := .ref (a 9)) (C := RX3) (T := TX3) (N := 11) hx hb hts i3 hown hK hP 0 rfl rfl 1 (by decide) f16 (fun _ h9 => h9) rfl dX3_wholeThen_19 ?_
    refine lv_aload_n hx hb dX3_wholeThen_22 rfl (lv_at hl 1 rfl) ?_
    refine va_get (D := D) (ci := 3) (v := .ref (a 1)) (C := RX3) (T := TX3) (N := 11) hx hb hts i3 hown hK hP 0 rfl rfl 0 (by decide) f10 (fun _ h9 => h9) rfl dX3_wholeThen_23 ?_
    obtain ⟨u26_mi, q26, h⟩ := bnd1_inv h
    refine kVV (n := 1) (As := [.ref (a 1)]) (rest := []) CF hl hK hP hD hS hA (c_X2_become l D cI (a 9) (a 10) (a 11) (a 12) (a 13) (a 14) (a 15) (a 16) (a 1) (a 2) (a 3) (a 4) (a 5) (a 6) (a 7) (a 8) mi no  u26_mi q26) gX3_wholeThen_X2_become rfl dX3_wholeThen_26 (by decide +kernel) ⟨⟨rfl, rfl⟩, ⟨Nat.le_of_ble_eq_true rfl, Nat.le_of_ble_eq_true rfl⟩, Nat.zero_le _, Nat.zero_le _⟩ (JN.sub (wst' := (cX a cI no u26_mi ke hk sg lz rn rs rf be fh oh)) [9, 10, 11, 12, 13, 14, 15, 16, 1, 2, 3, 4, 5, 6, 7, 8] rfl rfl rfl rfl) 9 rfl ⟨rfl, rfl⟩ rfl rfl (Nat.le_of_ble_eq_true rfl) (fun H locs hP hD hS => ?_)
    replace hP : va_P D vwCl (cX a cI no u26_mi ke hk sg lz rn rs rf be fh oh) H := hP
    replace hD : va_D A (cX a cI no u26_mi ke hk sg lz rn rs rf be fh oh) := hD
    refine lv_aload_n hx hb dX3_wholeThen_29 rfl (lv_at hl 1 rfl) ?_
    refine va_get (D := D) (ci := 3) (v := .ref (a 9)) (C := RX3) (T := TX3) (N := 11) hx hb hts i3 hown hK hP 0 rfl rfl 1 (by decide) f16 (fun _ h9 => h9) rfl dX3_wholeThen_30 ?_
    refine lv_iload_n hx hb dX3_wholeThen_33 rfl (lv_at hl 2 rfl) ?_
    refine lv_iconst (v := 1) hx hb dX3_wholeThen_34 (by decide) ?_
    refine lv_bipush (v := (-9)) hx hb dX3_wholeThen_35 (by decide) ?_
    obtain ⟨u37_mi, q37, h⟩ := bnd1_inv h
    refine kVV (n := 3) (As := [.int p1, .int (1 : Int32), .int (-9 : Int32)]) (rest := []) CF hl hK hP hD hS hA (c_X2_pass l D cI (a 9) (a 10) (a 11) (a 12) (a 13) (a 14) (a 15) (a 16) u26_mi p1 (1 : Int32) (-9 : Int32) u37_mi q37) gX3_wholeThen_X2_pass rfl dX3_wholeThen_37 (by decide +kernel) ⟨⟨rfl, rfl⟩, ⟨Nat.le_of_ble_eq_true rfl, Nat.le_of_ble_eq_true rfl⟩, Nat.zero_le _, Nat.zero_le _⟩ (JN.sub (wst' := (cX a cI no u37_mi ke hk sg lz rn rs rf be fh oh)) [9, 10, 11, 12, 13, 14, 15, 16] rfl rfl rfl rfl) 9 rfl ⟨rfl, rfl⟩ rfl rfl (Nat.le_of_ble_eq_true rfl) (fun H locs hP hD hS => ?_)
    replace hP : va_P D vwCl (cX a cI no u37_mi ke hk sg lz rn rs rf be fh oh) H := hP
    replace hD : va_D A (cX a cI no u37_mi ke hk sg lz rn rs rf be fh oh) := hD
    refine lv_aload_n hx hb dX3_wholeThen_40 rfl (lv_at hl 1 rfl) ?_
    refine va_get (D := D) (ci := 3) (v := .ref (a 9)) (C := RX3) (T := TX3) (N := 11) hx hb hts i3 hown hK hP 0 rfl rfl 1 (by decide) f16 (fun _ h9 => h9) rfl dX3_wholeThen_41 ?_
    obtain ⟨r44, q44, h⟩ := bnd1_inv h
    refine kVI (n := 0) (As := []) (rest := []) CF hl hK hP hD hS hA (c_X2_wholeBits l D cI (a 9) (a 10) (a 11) (a 12) (a 13) (a 14) (a 15) (a 16) u37_mi  r44 q44) gX3_wholeThen_X2_wholeBits rfl dX3_wholeThen_44 (by decide +kernel) ⟨⟨rfl, rfl⟩, ⟨Nat.le_of_ble_eq_true rfl, Nat.le_of_ble_eq_true rfl⟩, Nat.zero_le _, Nat.zero_le _⟩ (JN.ro [9, 10, 11, 12, 13, 14, 15, 16] rfl rfl) 9 rfl ⟨rfl, rfl⟩ rfl rfl (Nat.le_of_ble_eq_true rfl) (fun H locs hP hD hS => ?_)
    obtain ⟨rfl, rfl, rfl⟩ := ret3 h
    exact rI hQ hx hb hr hlocks hAe hP hS rfl rfl dX3_wholeThen_47
  · replace h := fx_ite_f c9 h
    refine lv_aload_n hx hb dX3_wholeThen_12 rfl (lv_at hl 1 rfl) ?_
    refine lv_iload_n hx hb dX3_wholeThen_13 rfl (lv_at hl 0 rfl) ?_
    obtain ⟨r14, u14_rf, q14, h⟩ := bnd2_inv h
    refine kVI (n := 1) (As := [.int r4]) (rest := []) CF hl hK hP hD hS hA (c_X3_refuse l D cI a no mi ke hk sg lz rn rs rf be fh oh r4 r14 u14_rf q14) gX3_wholeThen_X3_refuse rfl dX3_wholeThen_14 (by decide +kernel) ⟨⟨rfl, rfl⟩, ⟨Nat.le_of_ble_eq_true rfl, Nat.le_of_ble_eq_true rfl⟩, Nat.zero_le _, Nat.zero_le _⟩ (JN.whole (w1 := (cX a cI no mi ke hk sg lz rn rs u14_rf be fh oh)) rfl) 0 rfl ⟨rfl, rfl⟩ rfl rfl (Nat.le_of_ble_eq_true rfl) (fun H locs hP hD hS => ?_)
    replace hP : va_P D vwCl (cX a cI no mi ke hk sg lz rn rs u14_rf be fh oh) H := hP
    replace hD : va_D A (cX a cI no mi ke hk sg lz rn rs u14_rf be fh oh) := hD
    obtain ⟨rfl, rfl, rfl⟩ := ret3 h
    exact rI hQ hx hb hr hlocks hAe hP hS rfl rfl dX3_wholeThen_17
/-! X3_brokenThen -/
set_option maxHeartbeats 4000000 in
set_option maxRecDepth 100000 in
theorem c_X3_brokenThen (l : Launch) (D : va_G) (cI : ClassId) (a : Nat → Nat) (no : SV) (mi : SV) (ke : SV) (hk : Int32) (sg : (Nat → Int32)) (lz : Int32) (rn : (Nat → Int32)) (rs : Int32) (rf : (Nat → Int32)) (be : (Nat → Int32)) (fh : (Nat → Int32)) (oh : (Nat → Int32)) (p1 : Int32) (p2 : Int32) (res : Int32) (u_mi : SV) (u_rf : (Nat → Int32)) (h : M_X3_brokenThen no mi rf p1 p2 = some (res, u_mi, u_rf)) : mI l yX3_brokenThen wsX3_brokenThen { frames := 5, cells := 0, slots := 0, locals := 115 } D cI [.ref (a 0), .int p1, .int p2] (cX a cI no mi ke hk sg lz rn rs rf be fh oh) (cX a cI no u_mi ke hk sg lz rn rs u_rf be fh oh) res := by
  intro sz
  refine mStart (cc := cX3_brokenThen) (maxL := 4) (ret := (some .int)) (own := RX3) (by decide) rfl rfl (Nat.le_of_ble_eq_true rfl) (lv := [(0, .ref (a 0)), (1, .int p1), (2, .int p2)]) rfl ?_
  intro p e s m args below meth c A ls Q H locs CF hr hlocks hK hP hD hS hA hAe hl hQ
  obtain ⟨hx, hb, hml, hown, hts⟩ := id CF
  have f10 := hts (.fieldLink RX3 10 "MendAnothersBreaking" "now" "LMendAnothersBreaking$State;") (List.mem_of_getElem? (i := 1) rfl)
  have f16 := hts (.fieldLink RX3 16 "MendAnothersBreaking" "mind" "LMendAnothersBreaking$State;") (List.mem_of_getElem? (i := 2) rfl)
  have f114 := hts (.fieldLink RX3 114 "MendAnothersBreaking$State" "breakers" "[I") (List.mem_of_getElem? (i := 3) rfl)
  have i2 : ∀ w ∈ wsX20, w ∈ wsX3_brokenThen := fun w h => List.mem_cons_of_mem _ (List.mem_append_right _ h)
  have i3 : ∀ w ∈ wsX30, w ∈ wsX3_brokenThen := fun w h => List.mem_cons_of_mem _ (List.mem_append_left _ (List.mem_append_right _ h))
  unfold M_X3_brokenThen at h
  refine lv_aload_n hx hb dX3_brokenThen_0 rfl (lv_at hl 0 rfl) ?_
  refine va_get (D := D) (ci := 3) (v := .ref (a 1)) (C := RX3) (T := TX3) (N := 11) hx hb hts i3 hown hK hP 0 rfl rfl 0 (by decide) f10 (fun _ h9 => h9) rfl dX3_brokenThen_1 ?_
  refine lv_iload_n hx hb dX3_brokenThen_4 rfl (lv_at hl 1 rfl) ?_
  obtain ⟨r5, q5, h⟩ := bnd1_inv h
  refine kVI (n := 1) (As := [.int p1]) (rest := []) CF hl hK hP hD hS hA (c_X2_isThing l D cI (a 1) (a 2) (a 3) (a 4) (a 5) (a 6) (a 7) (a 8) no p1 r5 q5) gX3_brokenThen_X2_isThing rfl dX3_brokenThen_5 (by decide +kernel) ⟨⟨rfl, rfl⟩, ⟨Nat.le_of_ble_eq_true rfl, Nat.le_of_ble_eq_true rfl⟩, Nat.zero_le _, Nat.zero_le _⟩ (JN.ro [1, 2, 3, 4, 5, 6, 7, 8] rfl rfl) 1 rfl ⟨rfl, rfl⟩ rfl rfl (Nat.le_of_ble_eq_true rfl) (fun H locs hP hD hS => ?_)
  refine lv_if_ne (tgt := 17) hx hb dX3_brokenThen_8 (by decide) (fun c8 => ?_) (fun c8 => ?_)
  · replace h := fx_ite_f c8 h
    refine lv_iload_n hx hb dX3_brokenThen_17 rfl (lv_at hl 2 rfl) ?_
    refine lv_iconst (v := 0) hx hb dX3_brokenThen_18 (by decide) ?_
    refine lv_bipush (v := 99) hx hb dX3_brokenThen_19 (by decide) ?_
    obtain ⟨r21, q21, h⟩ := bnd1_inv h
    refine kSI (n := 3) (As := [.int p2, .int (0 : Int32), .int (99 : Int32)]) (rest := []) CF hl hK hP hD hS hA (c_X3_outside l D cI   p2 (0 : Int32) (99 : Int32) r21 q21) gX3_brokenThen_X3_outside rfl dX3_brokenThen_21 (by decide +kernel) ⟨⟨rfl, rfl⟩, ⟨Nat.le_of_ble_eq_true rfl, Nat.le_of_ble_eq_true rfl⟩, Nat.zero_le _, Nat.zero_le _⟩ (JN.ro [] rfl rfl) rfl rfl (Nat.le_of_ble_eq_true rfl) (fun H locs hP hD hS => ?_)
    refine lv_istore_n (lv' := [(3, .int r21), (0, .ref (a 0)), (1, .int p1), (2, .int p2)]) hx hb dX3_brokenThen_24 rfl hl (by decide) rfl (fun ls hl => ?_)
    refine lv_iload_n hx hb dX3_brokenThen_25 rfl (lv_at hl 0 rfl) ?_
    refine lv_if_eq (tgt := 35) hx hb dX3_brokenThen_26 (by decide) (fun c26 => ?_) (fun c26 => ?_)
    · replace h := fx_ite_t c26 h
      refine lv_aload_n hx hb dX3_brokenThen_35 rfl (lv_at hl 1 rfl) ?_
      refine va_get (D := D) (ci := 3) (v := .ref (a 9)) (C := RX3) (T := TX3) (N := 11) hx hb hts i3 hown hK hP 0 rfl rfl 1 (by decide) f16 (fun _ h9 => h9) rfl dX3_brokenThen_36 ?_
      refine lv_aload_n hx hb dX3_brokenThen_39 rfl (lv_at hl 1 rfl) ?_
      refine va_get (D := D) (ci := 3) (v := .ref (a 1)) (C := RX3) (T := TX3) (N := 11) hx hb hts i3 hown hK hP 0 rfl rfl 0 (by decide) f10 (fun _ h9 => h9) rfl dX3_brokenThen_40 ?_
      obtain ⟨u43_mi, q43, h⟩ := bnd1_inv h
      refine kVV (n := 1) (As := [.ref (a 1)]) (rest := []) CF hl hK hP hD hS hA (c_X2_become l D cI (a 9) (a 10) (a 11) (a 12) (a 13) (a 14) (a 15) (a 16) (a 1) (a 2) (a 3) (a 4) (a 5) (a 6) (a 7) (a 8) mi no  u43_mi q43) gX3_brokenThen_X2_become rfl dX3_brokenThen_43 (by decide +kernel) ⟨⟨rfl, rfl⟩, ⟨Nat.le_of_ble_eq_true rfl, Nat.le_of_ble_eq_true rfl⟩, Nat.zero_le _, Nat.zero_le _⟩ (JN.sub (wst' := (cX a cI no u43_mi ke hk sg lz rn rs rf be fh oh)) [9, 10, 11, 12, 13, 14, 15, 16, 1, 2, 3, 4, 5, 6, 7, 8] rfl rfl rfl rfl) 9 rfl ⟨rfl, rfl⟩ rfl rfl (Nat.le_of_ble_eq_true rfl) (fun H locs hP hD hS => ?_)
      replace hP : va_P D vwCl (cX a cI no u43_mi ke hk sg lz rn rs rf be fh oh) H := hP
      replace hD : va_D A (cX a cI no u43_mi ke hk sg lz rn rs rf be fh oh) := hD
      refine lv_aload_n hx hb dX3_brokenThen_46 rfl (lv_at hl 1 rfl) ?_
      refine va_get (D := D) (ci := 3) (v := .ref (a 9)) (C := RX3) (T := TX3) (N := 11) hx hb hts i3 hown hK hP 0 rfl rfl 1 (by decide) f16 (fun _ h9 => h9) rfl dX3_brokenThen_47 ?_
      refine lv_iload_n hx hb dX3_brokenThen_50 rfl (lv_at hl 3 rfl) ?_
      refine lv_iconst (v := 1) hx hb dX3_brokenThen_51 (by decide) ?_
      refine lv_bipush (v := (-9)) hx hb dX3_brokenThen_52 (by decide) ?_
      obtain ⟨u54_mi, q54, h⟩ := bnd1_inv h
      refine kVV (n := 3) (As := [.int p2, .int (1 : Int32), .int (-9 : Int32)]) (rest := []) CF hl hK hP hD hS hA (c_X2_pass l D cI (a 9) (a 10) (a 11) (a 12) (a 13) (a 14) (a 15) (a 16) u43_mi p2 (1 : Int32) (-9 : Int32) u54_mi q54) gX3_brokenThen_X2_pass rfl dX3_brokenThen_54 (by decide +kernel) ⟨⟨rfl, rfl⟩, ⟨Nat.le_of_ble_eq_true rfl, Nat.le_of_ble_eq_true rfl⟩, Nat.zero_le _, Nat.zero_le _⟩ (JN.sub (wst' := (cX a cI no u54_mi ke hk sg lz rn rs rf be fh oh)) [9, 10, 11, 12, 13, 14, 15, 16] rfl rfl rfl rfl) 9 rfl ⟨rfl, rfl⟩ rfl rfl (Nat.le_of_ble_eq_true rfl) (fun H locs hP hD hS => ?_)
      replace hP : va_P D vwCl (cX a cI no u54_mi ke hk sg lz rn rs rf be fh oh) H := hP
      replace hD : va_D A (cX a cI no u54_mi ke hk sg lz rn rs rf be fh oh) := hD
      refine lv_aload_n hx hb dX3_brokenThen_57 rfl (lv_at hl 1 rfl) ?_
      refine va_get (D := D) (ci := 3) (v := .ref (a 9)) (C := RX3) (T := TX3) (N := 11) hx hb hts i3 hown hK hP 0 rfl rfl 1 (by decide) f16 (fun _ h9 => h9) rfl dX3_brokenThen_58 ?_
      refine va_get (D := D) (ci := 2) (v := .ref (a 16)) (C := RX2) (T := TX2) (N := 10) hx hb hts i2 hown hK hP 9 rfl rfl 6 (by decide) f114 (fun _ h9 => h9) rfl dX3_brokenThen_61 ?_
      refine lv_iload_n hx hb dX3_brokenThen_64 rfl (lv_at hl 2 rfl) ?_
      obtain ⟨g65, h⟩ := chk_inv h
      refine va_iald (n := 9) (f := (sBr u54_mi)) hx hb hK hP 16 0 rfl rfl g65 dX3_brokenThen_65 ?_
      obtain ⟨rfl, rfl, rfl⟩ := ret3 h
      exact rI hQ hx hb hr hlocks hAe hP hS rfl rfl dX3_brokenThen_66
    · replace h := fx_ite_f c26 h
      refine lv_aload_n hx hb dX3_brokenThen_29 rfl (lv_at hl 1 rfl) ?_
      refine lv_iload_n hx hb dX3_brokenThen_30 rfl (lv_at hl 0 rfl) ?_
      obtain ⟨r31, u31_rf, q31, h⟩ := bnd2_inv h
      refine kVI (n := 1) (As := [.int r21]) (rest := []) CF hl hK hP hD hS hA (c_X3_refuse l D cI a no mi ke hk sg lz rn rs rf be fh oh r21 r31 u31_rf q31) gX3_brokenThen_X3_refuse rfl dX3_brokenThen_31 (by decide +kernel) ⟨⟨rfl, rfl⟩, ⟨Nat.le_of_ble_eq_true rfl, Nat.le_of_ble_eq_true rfl⟩, Nat.zero_le _, Nat.zero_le _⟩ (JN.whole (w1 := (cX a cI no mi ke hk sg lz rn rs u31_rf be fh oh)) rfl) 0 rfl ⟨rfl, rfl⟩ rfl rfl (Nat.le_of_ble_eq_true rfl) (fun H locs hP hD hS => ?_)
      replace hP : va_P D vwCl (cX a cI no mi ke hk sg lz rn rs u31_rf be fh oh) H := hP
      replace hD : va_D A (cX a cI no mi ke hk sg lz rn rs u31_rf be fh oh) := hD
      obtain ⟨rfl, rfl, rfl⟩ := ret3 h
      exact rI hQ hx hb hr hlocks hAe hP hS rfl rfl dX3_brokenThen_34
  · replace h := fx_ite_t c8 h
    refine lv_aload_n hx hb dX3_brokenThen_11 rfl (lv_at hl 0 rfl) ?_
    refine lv_iconst (v := (-1)) hx hb dX3_brokenThen_12 (by decide) ?_
    obtain ⟨r13, u13_rf, q13, h⟩ := bnd2_inv h
    refine kVI (n := 1) (As := [.int (-1 : Int32)]) (rest := []) CF hl hK hP hD hS hA (c_X3_refuse l D cI a no mi ke hk sg lz rn rs rf be fh oh (-1 : Int32) r13 u13_rf q13) gX3_brokenThen_X3_refuse rfl dX3_brokenThen_13 (by decide +kernel) ⟨⟨rfl, rfl⟩, ⟨Nat.le_of_ble_eq_true rfl, Nat.le_of_ble_eq_true rfl⟩, Nat.zero_le _, Nat.zero_le _⟩ (JN.whole (w1 := (cX a cI no mi ke hk sg lz rn rs u13_rf be fh oh)) rfl) 0 rfl ⟨rfl, rfl⟩ rfl rfl (Nat.le_of_ble_eq_true rfl) (fun H locs hP hD hS => ?_)
    replace hP : va_P D vwCl (cX a cI no mi ke hk sg lz rn rs u13_rf be fh oh) H := hP
    replace hD : va_D A (cX a cI no mi ke hk sg lz rn rs u13_rf be fh oh) := hD
    obtain ⟨rfl, rfl, rfl⟩ := ret3 h
    exact rI hQ hx hb hr hlocks hAe hP hS rfl rfl dX3_brokenThen_16
/-! X3_mendedThen -/
set_option maxHeartbeats 4000000 in
set_option maxRecDepth 100000 in
theorem c_X3_mendedThen (l : Launch) (D : va_G) (cI : ClassId) (a : Nat → Nat) (no : SV) (mi : SV) (ke : SV) (hk : Int32) (sg : (Nat → Int32)) (lz : Int32) (rn : (Nat → Int32)) (rs : Int32) (rf : (Nat → Int32)) (be : (Nat → Int32)) (fh : (Nat → Int32)) (oh : (Nat → Int32)) (p1 : Int32) (res : Int32) (u_mi : SV) (u_rf : (Nat → Int32)) (h : M_X3_mendedThen no mi rf p1 = some (res, u_mi, u_rf)) : mI l yX3_mendedThen wsX3_mendedThen { frames := 5, cells := 0, slots := 0, locals := 115 } D cI [.ref (a 0), .int p1] (cX a cI no mi ke hk sg lz rn rs rf be fh oh) (cX a cI no u_mi ke hk sg lz rn rs u_rf be fh oh) res := by
  intro sz
  refine mStart (cc := cX3_mendedThen) (maxL := 3) (ret := (some .int)) (own := RX3) (by decide) rfl rfl (Nat.le_of_ble_eq_true rfl) (lv := [(0, .ref (a 0)), (1, .int p1)]) rfl ?_
  intro p e s m args below meth c A ls Q H locs CF hr hlocks hK hP hD hS hA hAe hl hQ
  obtain ⟨hx, hb, hml, hown, hts⟩ := id CF
  have f10 := hts (.fieldLink RX3 10 "MendAnothersBreaking" "now" "LMendAnothersBreaking$State;") (List.mem_of_getElem? (i := 2) rfl)
  have f16 := hts (.fieldLink RX3 16 "MendAnothersBreaking" "mind" "LMendAnothersBreaking$State;") (List.mem_of_getElem? (i := 1) rfl)
  have i3 : ∀ w ∈ wsX30, w ∈ wsX3_mendedThen := fun w h => List.mem_cons_of_mem _ (List.mem_append_left _ (List.mem_append_right _ h))
  unfold M_X3_mendedThen at h
  refine lv_iload_n hx hb dX3_mendedThen_0 rfl (lv_at hl 1 rfl) ?_
  refine lv_iconst (v := 0) hx hb dX3_mendedThen_1 (by decide) ?_
  refine lv_bipush (v := 99) hx hb dX3_mendedThen_2 (by decide) ?_
  obtain ⟨r4, q4, h⟩ := bnd1_inv h
  refine kSI (n := 3) (As := [.int p1, .int (0 : Int32), .int (99 : Int32)]) (rest := []) CF hl hK hP hD hS hA (c_X3_outside l D cI   p1 (0 : Int32) (99 : Int32) r4 q4) gX3_mendedThen_X3_outside rfl dX3_mendedThen_4 (by decide +kernel) ⟨⟨rfl, rfl⟩, ⟨Nat.le_of_ble_eq_true rfl, Nat.le_of_ble_eq_true rfl⟩, Nat.zero_le _, Nat.zero_le _⟩ (JN.ro [] rfl rfl) rfl rfl (Nat.le_of_ble_eq_true rfl) (fun H locs hP hD hS => ?_)
  refine lv_istore_n (lv' := [(2, .int r4), (0, .ref (a 0)), (1, .int p1)]) hx hb dX3_mendedThen_7 rfl hl (by decide) rfl (fun ls hl => ?_)
  refine lv_iload_n hx hb dX3_mendedThen_8 rfl (lv_at hl 0 rfl) ?_
  refine lv_if_eq (tgt := 18) hx hb dX3_mendedThen_9 (by decide) (fun c9 => ?_) (fun c9 => ?_)
  · replace h := fx_ite_t c9 h
    refine lv_aload_n hx hb dX3_mendedThen_18 rfl (lv_at hl 1 rfl) ?_
    refine va_get (D := D) (ci := 3) (v := .ref (a 9)) (C := RX3) (T := TX3) (N := 11) hx hb hts i3 hown hK hP 0 rfl rfl 1 (by decide) f16 (fun _ h9 => h9) rfl dX3_mendedThen_19 ?_
    refine lv_aload_n hx hb dX3_mendedThen_22 rfl (lv_at hl 1 rfl) ?_
    refine va_get (D := D) (ci := 3) (v := .ref (a 1)) (C := RX3) (T := TX3) (N := 11) hx hb hts i3 hown hK hP 0 rfl rfl 0 (by decide) f10 (fun _ h9 => h9) rfl dX3_mendedThen_23 ?_
    obtain ⟨u26_mi, q26, h⟩ := bnd1_inv h
    refine kVV (n := 1) (As := [.ref (a 1)]) (rest := []) CF hl hK hP hD hS hA (c_X2_become l D cI (a 9) (a 10) (a 11) (a 12) (a 13) (a 14) (a 15) (a 16) (a 1) (a 2) (a 3) (a 4) (a 5) (a 6) (a 7) (a 8) mi no  u26_mi q26) gX3_mendedThen_X2_become rfl dX3_mendedThen_26 (by decide +kernel) ⟨⟨rfl, rfl⟩, ⟨Nat.le_of_ble_eq_true rfl, Nat.le_of_ble_eq_true rfl⟩, Nat.zero_le _, Nat.zero_le _⟩ (JN.sub (wst' := (cX a cI no u26_mi ke hk sg lz rn rs rf be fh oh)) [9, 10, 11, 12, 13, 14, 15, 16, 1, 2, 3, 4, 5, 6, 7, 8] rfl rfl rfl rfl) 9 rfl ⟨rfl, rfl⟩ rfl rfl (Nat.le_of_ble_eq_true rfl) (fun H locs hP hD hS => ?_)
    replace hP : va_P D vwCl (cX a cI no u26_mi ke hk sg lz rn rs rf be fh oh) H := hP
    replace hD : va_D A (cX a cI no u26_mi ke hk sg lz rn rs rf be fh oh) := hD
    refine lv_aload_n hx hb dX3_mendedThen_29 rfl (lv_at hl 1 rfl) ?_
    refine va_get (D := D) (ci := 3) (v := .ref (a 9)) (C := RX3) (T := TX3) (N := 11) hx hb hts i3 hown hK hP 0 rfl rfl 1 (by decide) f16 (fun _ h9 => h9) rfl dX3_mendedThen_30 ?_
    refine lv_iload_n hx hb dX3_mendedThen_33 rfl (lv_at hl 2 rfl) ?_
    refine lv_iconst (v := 1) hx hb dX3_mendedThen_34 (by decide) ?_
    refine lv_bipush (v := (-9)) hx hb dX3_mendedThen_35 (by decide) ?_
    obtain ⟨u37_mi, q37, h⟩ := bnd1_inv h
    refine kVV (n := 3) (As := [.int p1, .int (1 : Int32), .int (-9 : Int32)]) (rest := []) CF hl hK hP hD hS hA (c_X2_pass l D cI (a 9) (a 10) (a 11) (a 12) (a 13) (a 14) (a 15) (a 16) u26_mi p1 (1 : Int32) (-9 : Int32) u37_mi q37) gX3_mendedThen_X2_pass rfl dX3_mendedThen_37 (by decide +kernel) ⟨⟨rfl, rfl⟩, ⟨Nat.le_of_ble_eq_true rfl, Nat.le_of_ble_eq_true rfl⟩, Nat.zero_le _, Nat.zero_le _⟩ (JN.sub (wst' := (cX a cI no u37_mi ke hk sg lz rn rs rf be fh oh)) [9, 10, 11, 12, 13, 14, 15, 16] rfl rfl rfl rfl) 9 rfl ⟨rfl, rfl⟩ rfl rfl (Nat.le_of_ble_eq_true rfl) (fun H locs hP hD hS => ?_)
    replace hP : va_P D vwCl (cX a cI no u37_mi ke hk sg lz rn rs rf be fh oh) H := hP
    replace hD : va_D A (cX a cI no u37_mi ke hk sg lz rn rs rf be fh oh) := hD
    refine lv_aload_n hx hb dX3_mendedThen_40 rfl (lv_at hl 1 rfl) ?_
    refine va_get (D := D) (ci := 3) (v := .ref (a 9)) (C := RX3) (T := TX3) (N := 11) hx hb hts i3 hown hK hP 0 rfl rfl 1 (by decide) f16 (fun _ h9 => h9) rfl dX3_mendedThen_41 ?_
    obtain ⟨r44, q44, h⟩ := bnd1_inv h
    refine kVI (n := 0) (As := []) (rest := []) CF hl hK hP hD hS hA (c_X2_mendedByAll l D cI (a 9) (a 10) (a 11) (a 12) (a 13) (a 14) (a 15) (a 16) u37_mi  r44 q44) gX3_mendedThen_X2_mendedByAll rfl dX3_mendedThen_44 (by decide +kernel) ⟨⟨rfl, rfl⟩, ⟨Nat.le_of_ble_eq_true rfl, Nat.le_of_ble_eq_true rfl⟩, Nat.zero_le _, Nat.zero_le _⟩ (JN.ro [9, 10, 11, 12, 13, 14, 15, 16] rfl rfl) 9 rfl ⟨rfl, rfl⟩ rfl rfl (Nat.le_of_ble_eq_true rfl) (fun H locs hP hD hS => ?_)
    refine lv_aload_n hx hb dX3_mendedThen_47 rfl (lv_at hl 1 rfl) ?_
    refine va_get (D := D) (ci := 3) (v := .ref (a 1)) (C := RX3) (T := TX3) (N := 11) hx hb hts i3 hown hK hP 0 rfl rfl 0 (by decide) f10 (fun _ h9 => h9) rfl dX3_mendedThen_48 ?_
    obtain ⟨r51, q51, h⟩ := bnd1_inv h
    refine kVI (n := 0) (As := []) (rest := [.int r44]) CF hl hK hP hD hS hA (c_X2_mendedByAll l D cI (a 1) (a 2) (a 3) (a 4) (a 5) (a 6) (a 7) (a 8) no  r51 q51) gX3_mendedThen_X2_mendedByAll rfl dX3_mendedThen_51 (by decide +kernel) ⟨⟨rfl, rfl⟩, ⟨Nat.le_of_ble_eq_true rfl, Nat.le_of_ble_eq_true rfl⟩, Nat.zero_le _, Nat.zero_le _⟩ (JN.ro [1, 2, 3, 4, 5, 6, 7, 8] rfl rfl) 1 rfl ⟨rfl, rfl⟩ rfl rfl (Nat.le_of_ble_eq_true rfl) (fun H locs hP hD hS => ?_)
    refine lv_isub hx hb dX3_mendedThen_54 ?_
    obtain ⟨rfl, rfl, rfl⟩ := ret3 h
    exact rI hQ hx hb hr hlocks hAe hP hS rfl rfl dX3_mendedThen_55
  · replace h := fx_ite_f c9 h
    refine lv_aload_n hx hb dX3_mendedThen_12 rfl (lv_at hl 1 rfl) ?_
    refine lv_iload_n hx hb dX3_mendedThen_13 rfl (lv_at hl 0 rfl) ?_
    obtain ⟨r14, u14_rf, q14, h⟩ := bnd2_inv h
    refine kVI (n := 1) (As := [.int r4]) (rest := []) CF hl hK hP hD hS hA (c_X3_refuse l D cI a no mi ke hk sg lz rn rs rf be fh oh r4 r14 u14_rf q14) gX3_mendedThen_X3_refuse rfl dX3_mendedThen_14 (by decide +kernel) ⟨⟨rfl, rfl⟩, ⟨Nat.le_of_ble_eq_true rfl, Nat.le_of_ble_eq_true rfl⟩, Nat.zero_le _, Nat.zero_le _⟩ (JN.whole (w1 := (cX a cI no mi ke hk sg lz rn rs u14_rf be fh oh)) rfl) 0 rfl ⟨rfl, rfl⟩ rfl rfl (Nat.le_of_ble_eq_true rfl) (fun H locs hP hD hS => ?_)
    replace hP : va_P D vwCl (cX a cI no mi ke hk sg lz rn rs u14_rf be fh oh) H := hP
    replace hD : va_D A (cX a cI no mi ke hk sg lz rn rs u14_rf be fh oh) := hD
    obtain ⟨rfl, rfl, rfl⟩ := ret3 h
    exact rI hQ hx hb hr hlocks hAe hP hS rfl rfl dX3_mendedThen_17
/-! X3_daysUntil -/
set_option maxHeartbeats 4000000 in
set_option maxRecDepth 100000 in
theorem c_X3_daysUntil (l : Launch) (D : va_G) (cI : ClassId) (a : Nat → Nat) (no : SV) (mi : SV) (ke : SV) (hk : Int32) (sg : (Nat → Int32)) (lz : Int32) (rn : (Nat → Int32)) (rs : Int32) (rf : (Nat → Int32)) (be : (Nat → Int32)) (fh : (Nat → Int32)) (oh : (Nat → Int32)) (p1 : Int32) (p2 : Int32) (res : Int32) (u_mi : SV) (h : M_X3_daysUntil mi p1 p2 = some (res, u_mi)) : mI l yX3_daysUntil wsX3_daysUntil { frames := 5, cells := 0, slots := 0, locals := 115 } D cI [.ref (a 0), .int p1, .int p2] (cX a cI no mi ke hk sg lz rn rs rf be fh oh) (cX a cI no u_mi ke hk sg lz rn rs rf be fh oh) res := by
  intro sz
  refine mStart (cc := cX3_daysUntil) (maxL := 4) (ret := (some .int)) (own := RX3) (by decide) rfl rfl (Nat.le_of_ble_eq_true rfl) (lv := [(0, .ref (a 0)), (1, .int p1), (2, .int p2)]) rfl ?_
  intro p e s m args below meth c A ls Q H locs CF hr hlocks hK hP hD hS hA hAe hl hQ
  obtain ⟨hx, hb, hml, hown, hts⟩ := id CF
  have f16 := hts (.fieldLink RX3 16 "MendAnothersBreaking" "mind" "LMendAnothersBreaking$State;") (List.mem_of_getElem? (i := 1) rfl)
  have i3 : ∀ w ∈ wsX30, w ∈ wsX3_daysUntil := fun w h => List.mem_cons_of_mem _ (List.mem_append_left _ (List.mem_append_right _ h))
  have L2 : ∀ (n : Nat) (x1 : Int32) (x2 : Int32) (x3 : Int32) (mi : SV), fuel (fun _ _ => none) (B_X3_daysUntil_2 x1 x2) n x3 mi = some (res, u_mi) → 
      ∀ (H : Heap) (locs : List Loc) (ls : Array Slot), va_P D vwCl (cX a cI no mi ke hk sg lz rn rs rf be fh oh) H → va_D A (cX a cI no mi ke hk sg lz rn rs rf be fh oh) → va_S A s.heap H locs → lv_has ls 4 [(0, .ref (a 0)), (1, .int x1), (2, .int x2), (3, .int x3)] → W p l e { frames := 5, cells := 0, slots := 0, locals := 115 } s m args below meth c H locs 0 0 Q (F0 m 2 ls []) := by
    intro n
    induction n with
    | zero =>
      intro x1 x2 x3 mi h
      exact nomatch (show (none : Option (Int32 × SV)) = some (res, u_mi) from h)
    | succ n ih =>
      intro x1 x2 x3 mi h  H locs ls hP hD hS hl
      replace h : B_X3_daysUntil_2 x1 x2 (fuel (fun _ _ => none) (B_X3_daysUntil_2 x1 x2) n) x3 mi = some (res, u_mi) := h
      unfold B_X3_daysUntil_2 at h
      refine lv_iload_n hx hb dX3_daysUntil_2 rfl (lv_at hl 3 rfl) ?_
      refine lv_bipush (v := 99) hx hb dX3_daysUntil_3 (by decide) ?_
      refine lv_icmp_gt (tgt := 39) hx hb dX3_daysUntil_5 (by decide) (fun c5 => ?_) (fun c5 => ?_)
      · replace h := fx_ite_t c5 h
        refine lv_bipush (v := (-9)) hx hb dX3_daysUntil_39 (by decide) ?_
        obtain ⟨rfl, rfl⟩ := ret2 h
        exact rI hQ hx hb hr hlocks hAe hP hS rfl rfl dX3_daysUntil_41
      · replace h := fx_ite_f c5 h
        refine lv_aload_n hx hb dX3_daysUntil_8 rfl (lv_at hl 0 rfl) ?_
        refine va_get (D := D) (ci := 3) (v := .ref (a 9)) (C := RX3) (T := TX3) (N := 11) hx hb hts i3 hown hK hP 0 rfl rfl 1 (by decide) f16 (fun _ h9 => h9) rfl dX3_daysUntil_9 ?_
        refine lv_iload_n hx hb dX3_daysUntil_12 rfl (lv_at hl 1 rfl) ?_
        obtain ⟨r13, q13, h⟩ := bnd1_inv h
        refine kVI (n := 1) (As := [.int x1]) (rest := []) CF hl hK hP hD hS hA (c_X2_isWhole l D cI (a 9) (a 10) (a 11) (a 12) (a 13) (a 14) (a 15) (a 16) mi x1 r13 q13) gX3_daysUntil_X2_isWhole rfl dX3_daysUntil_13 (by decide +kernel) ⟨⟨rfl, rfl⟩, ⟨Nat.le_of_ble_eq_true rfl, Nat.le_of_ble_eq_true rfl⟩, Nat.zero_le _, Nat.zero_le _⟩ (JN.ro [9, 10, 11, 12, 13, 14, 15, 16] rfl rfl) 9 rfl ⟨rfl, rfl⟩ rfl rfl (Nat.le_of_ble_eq_true rfl) (fun H locs hP hD hS => ?_)
        refine lv_iload_n hx hb dX3_daysUntil_16 rfl (lv_at hl 2 rfl) ?_
        refine lv_icmp_ne (tgt := 22) hx hb dX3_daysUntil_17 (by decide) (fun c17 => ?_) (fun c17 => ?_)
        · replace h := fx_ite_f c17 h
          refine lv_aload_n hx hb dX3_daysUntil_22 rfl (lv_at hl 0 rfl) ?_
          refine va_get (D := D) (ci := 3) (v := .ref (a 9)) (C := RX3) (T := TX3) (N := 11) hx hb hts i3 hown hK hP 0 rfl rfl 1 (by decide) f16 (fun _ h9 => h9) rfl dX3_daysUntil_23 ?_
          refine lv_iconst (v := 1) hx hb dX3_daysUntil_26 (by decide) ?_
          refine lv_iconst (v := 1) hx hb dX3_daysUntil_27 (by decide) ?_
          refine lv_bipush (v := (-9)) hx hb dX3_daysUntil_28 (by decide) ?_
          obtain ⟨u30_mi, q30, h⟩ := bnd1_inv h
          refine kVV (n := 3) (As := [.int (1 : Int32), .int (1 : Int32), .int (-9 : Int32)]) (rest := []) CF hl hK hP hD hS hA (c_X2_pass l D cI (a 9) (a 10) (a 11) (a 12) (a 13) (a 14) (a 15) (a 16) mi (1 : Int32) (1 : Int32) (-9 : Int32) u30_mi q30) gX3_daysUntil_X2_pass rfl dX3_daysUntil_30 (by decide +kernel) ⟨⟨rfl, rfl⟩, ⟨Nat.le_of_ble_eq_true rfl, Nat.le_of_ble_eq_true rfl⟩, Nat.zero_le _, Nat.zero_le _⟩ (JN.sub (wst' := (cX a cI no u30_mi ke hk sg lz rn rs rf be fh oh)) [9, 10, 11, 12, 13, 14, 15, 16] rfl rfl rfl rfl) 9 rfl ⟨rfl, rfl⟩ rfl rfl (Nat.le_of_ble_eq_true rfl) (fun H locs hP hD hS => ?_)
          replace hP : va_P D vwCl (cX a cI no u30_mi ke hk sg lz rn rs rf be fh oh) H := hP
          replace hD : va_D A (cX a cI no u30_mi ke hk sg lz rn rs rf be fh oh) := hD
          refine lv_iinc (v := (x3 + 1)) (lv' := [(3, .int (x3 + 1)), (0, .ref (a 0)), (1, .int x1), (2, .int x2)]) hx hb dX3_daysUntil_33 hl (k := 3) rfl (by first | rfl | decide) (by decide) rfl (fun ls hl => ?_)
          refine lv_goto (tgt := 2) hx hb dX3_daysUntil_36 (by decide) ?_
          exact ih _ _ _ _ h  _ _ _ hP hD hS (lv_sub hl [1, 2, 3, 0] rfl)
        · replace h := fx_ite_t c17 h
          refine lv_iload_n hx hb dX3_daysUntil_20 rfl (lv_at hl 3 rfl) ?_
          obtain ⟨rfl, rfl⟩ := ret2 h
          exact rI hQ hx hb hr hlocks hAe hP hS rfl rfl dX3_daysUntil_21
  unfold M_X3_daysUntil at h
  refine lv_iconst (v := 0) hx hb dX3_daysUntil_0 (by decide) ?_
  refine lv_istore_n (lv' := [(3, .int (0 : Int32)), (0, .ref (a 0)), (1, .int p1), (2, .int p2)]) hx hb dX3_daysUntil_1 rfl hl (by decide) rfl (fun ls hl => ?_)
  exact L2 FU _ _ _ _ h  _ _ _ hP hD hS (lv_sub hl [1, 2, 3, 0] rfl)
