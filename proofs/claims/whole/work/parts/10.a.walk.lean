/-! X2_addPerson -/
set_option maxHeartbeats 4000000 in
set_option maxRecDepth 100000 in
theorem c_X2_addPerson (l : Launch) (D : va_G) (cI : ClassId) (h0 h1 h2 h3 h4 h5 h6 h7 : Nat) (v : SV) (p1 : Int32) (res : Int32) (u_v : SV) (h : M_X2_addPerson v p1 = some (res, u_v)) : mI l yX2_addPerson wsX2_addPerson { frames := 0, cells := 0, slots := 0, locals := 0 } D cI [.ref h0, .int p1] (cS h0 h1 h2 h3 h4 h5 h6 h7 cI v) (cS h0 h1 h2 h3 h4 h5 h6 h7 cI u_v) res := by
  intro sz
  refine mStart (cc := cX2_addPerson) (maxL := 2) (ret := (some .boolean)) (own := RX2) (by decide) rfl rfl (Nat.le_of_ble_eq_true rfl) (lv := [(0, .ref h0), (1, .int p1)]) rfl ?_
  intro p e s m args below meth c A ls Q H locs CF hr hlocks hK hP hD hS hA hAe hl hQ
  obtain ⟨hx, hb, hml, hown, hts⟩ := id CF
  have f9 := hts (.fieldLink RX2 9 "MendAnothersBreaking$State" "skills" "[I") (List.mem_of_getElem? (i := 2) rfl)
  have f15 := hts (.fieldLink RX2 15 "MendAnothersBreaking$State" "mended" "[I") (List.mem_of_getElem? (i := 3) rfl)
  have f33 := hts (.fieldLink RX2 33 "MendAnothersBreaking$State" "people" "I") (List.mem_of_getElem? (i := 1) rfl)
  have i2 : ∀ w ∈ wsX20, w ∈ wsX2_addPerson := fun w h => List.mem_cons_of_mem _ (List.mem_append_right _ h)
  unfold M_X2_addPerson at h
  refine lv_aload_n hx hb dX2_addPerson_0 rfl (lv_at hl 0 rfl) ?_
  refine va_get (D := D) (ci := 2) (v := .int (sPe v)) (C := RX2) (T := TX2) (N := 10) hx hb hts i2 hown hK hP 0 rfl rfl 7 (by decide) f33 (fun _ h9 => h9) rfl dX2_addPerson_1 ?_
  refine lv_bipush (v := 6) hx hb dX2_addPerson_4 (by decide) ?_
  refine lv_icmp_lt (tgt := 11) hx hb dX2_addPerson_6 (by decide) (fun c6 => ?_) (fun c6 => ?_)
  · replace h := fx_ite_t c6 h
    refine lv_aload_n hx hb dX2_addPerson_11 rfl (lv_at hl 0 rfl) ?_
    refine va_get (D := D) (ci := 2) (v := .ref h1) (C := RX2) (T := TX2) (N := 10) hx hb hts i2 hown hK hP 0 rfl rfl 0 (by decide) f9 (fun _ h9 => h9) rfl dX2_addPerson_12 ?_
    refine lv_aload_n hx hb dX2_addPerson_15 rfl (lv_at hl 0 rfl) ?_
    refine va_get (D := D) (ci := 2) (v := .int (sPe v)) (C := RX2) (T := TX2) (N := 10) hx hb hts i2 hown hK hP 0 rfl rfl 7 (by decide) f33 (fun _ h9 => h9) rfl dX2_addPerson_16 ?_
    refine lv_iload_n hx hb dX2_addPerson_19 rfl (lv_at hl 1 rfl) ?_
    obtain ⟨g20, h⟩ := chk_inv h
    refine va_iast (n := 6) (f := (sSk v)) hx hb hK hP hD hS 1 0 rfl rfl g20 dX2_addPerson_20 (fun H locs hP hD hS => ?_)
    replace hP : va_P D vwCl (cS h0 h1 h2 h3 h4 h5 h6 h7 cI (sUSk v (upd (sSk v) (Int32.toNatClampNeg (sPe v)) p1))) H := hP
    replace hD : va_D A (cS h0 h1 h2 h3 h4 h5 h6 h7 cI (sUSk v (upd (sSk v) (Int32.toNatClampNeg (sPe v)) p1))) := hD
    refine lv_aload_n hx hb dX2_addPerson_21 rfl (lv_at hl 0 rfl) ?_
    refine va_get (D := D) (ci := 2) (v := .ref h2) (C := RX2) (T := TX2) (N := 10) hx hb hts i2 hown hK hP 0 rfl rfl 1 (by decide) f15 (fun _ h9 => h9) rfl dX2_addPerson_22 ?_
    refine lv_aload_n hx hb dX2_addPerson_25 rfl (lv_at hl 0 rfl) ?_
    refine va_get (D := D) (ci := 2) (v := .int (sPe v)) (C := RX2) (T := TX2) (N := 10) hx hb hts i2 hown hK hP 0 rfl rfl 7 (by decide) f33 (fun _ h9 => h9) rfl dX2_addPerson_26 ?_
    refine lv_iconst (v := 0) hx hb dX2_addPerson_29 (by decide) ?_
    obtain ⟨g30, h⟩ := chk_inv h
    refine va_iast (n := 6) (f := (sMe v)) hx hb hK hP hD hS 2 0 rfl rfl g30 dX2_addPerson_30 (fun H locs hP hD hS => ?_)
    replace hP : va_P D vwCl (cS h0 h1 h2 h3 h4 h5 h6 h7 cI (sUMe (sUSk v (upd (sSk v) (Int32.toNatClampNeg (sPe v)) p1)) (upd (sMe v) (Int32.toNatClampNeg (sPe v)) (0 : Int32)))) H := hP
    replace hD : va_D A (cS h0 h1 h2 h3 h4 h5 h6 h7 cI (sUMe (sUSk v (upd (sSk v) (Int32.toNatClampNeg (sPe v)) p1)) (upd (sMe v) (Int32.toNatClampNeg (sPe v)) (0 : Int32)))) := hD
    refine lv_aload_n hx hb dX2_addPerson_31 rfl (lv_at hl 0 rfl) ?_
    refine lv_dup hx hb dX2_addPerson_32 rfl ?_
    refine va_get (D := D) (ci := 2) (v := .int (sPe v)) (C := RX2) (T := TX2) (N := 10) hx hb hts i2 hown hK hP 0 rfl rfl 7 (by decide) f33 (fun _ h9 => h9) rfl dX2_addPerson_33 ?_
    refine lv_iconst (v := 1) hx hb dX2_addPerson_36 (by decide) ?_
    refine lv_iadd hx hb dX2_addPerson_37 ?_
    refine va_put (D := D) (ci := 2) (v := .int ((sPe v) + (1 : Int32))) (ty := .int) (C := RX2) (T := TX2) (N := 10) hx hb hts i2 tyX2 tyX2_ok nmX2 hown hK hP hD hS 0 rfl rfl 7 (by decide) f33 (fun _ h9 => h9) rfl (by decide +kernel) rfl rfl (Nat.le_of_ble_eq_true rfl) dX2_addPerson_38 (fun H locs hP hD hS => ?_)
    replace hP : va_P D vwCl (cS h0 h1 h2 h3 h4 h5 h6 h7 cI (sUPe (sUMe (sUSk v (upd (sSk v) (Int32.toNatClampNeg (sPe v)) p1)) (upd (sMe v) (Int32.toNatClampNeg (sPe v)) (0 : Int32))) ((sPe v) + (1 : Int32)))) H := hP
    replace hD : va_D A (cS h0 h1 h2 h3 h4 h5 h6 h7 cI (sUPe (sUMe (sUSk v (upd (sSk v) (Int32.toNatClampNeg (sPe v)) p1)) (upd (sMe v) (Int32.toNatClampNeg (sPe v)) (0 : Int32))) ((sPe v) + (1 : Int32)))) := hD
    refine lv_iconst (v := 1) hx hb dX2_addPerson_41 (by decide) ?_
    obtain ⟨rfl, rfl⟩ := ret2 h
    exact rI hQ hx hb hr hlocks hAe hP hS rfl rfl dX2_addPerson_42
  · replace h := fx_ite_f c6 h
    refine lv_iconst (v := 0) hx hb dX2_addPerson_9 (by decide) ?_
    obtain ⟨rfl, rfl⟩ := ret2 h
    exact rI hQ hx hb hr hlocks hAe hP hS rfl rfl dX2_addPerson_10
/-! X2_isPerson -/
set_option maxHeartbeats 4000000 in
set_option maxRecDepth 100000 in
theorem c_X2_isPerson (l : Launch) (D : va_G) (cI : ClassId) (h0 h1 h2 h3 h4 h5 h6 h7 : Nat) (v : SV) (p1 : Int32) (res : Int32) (h : M_X2_isPerson v p1 = some res) : mI l yX2_isPerson wsX2_isPerson { frames := 0, cells := 0, slots := 0, locals := 0 } D cI [.ref h0, .int p1] (cS h0 h1 h2 h3 h4 h5 h6 h7 cI v) (cS h0 h1 h2 h3 h4 h5 h6 h7 cI v) res := by
  intro sz
  refine mStart (cc := cX2_isPerson) (maxL := 2) (ret := (some .boolean)) (own := RX2) (by decide) rfl rfl (Nat.le_of_ble_eq_true rfl) (lv := [(0, .ref h0), (1, .int p1)]) rfl ?_
  intro p e s m args below meth c A ls Q H locs CF hr hlocks hK hP hD hS hA hAe hl hQ
  obtain ⟨hx, hb, hml, hown, hts⟩ := id CF
  have f33 := hts (.fieldLink RX2 33 "MendAnothersBreaking$State" "people" "I") (List.mem_of_getElem? (i := 1) rfl)
  have i2 : ∀ w ∈ wsX20, w ∈ wsX2_isPerson := fun w h => List.mem_cons_of_mem _ (List.mem_append_right _ h)
  unfold M_X2_isPerson at h
  refine lv_iload_n hx hb dX2_isPerson_0 rfl (lv_at hl 1 rfl) ?_
  refine lv_if_lt (tgt := 16) hx hb dX2_isPerson_1 (by decide) (fun c1 => ?_) (fun c1 => ?_)
  · replace h := fx_ite_t c1 h
    refine lv_iconst (v := 0) hx hb dX2_isPerson_16 (by decide) ?_
    obtain rfl := ret1 h
    exact rI hQ hx hb hr hlocks hAe hP hS rfl rfl dX2_isPerson_17
  · replace h := fx_ite_f c1 h
    refine lv_iload_n hx hb dX2_isPerson_4 rfl (lv_at hl 1 rfl) ?_
    refine lv_aload_n hx hb dX2_isPerson_5 rfl (lv_at hl 0 rfl) ?_
    refine va_get (D := D) (ci := 2) (v := .int (sPe v)) (C := RX2) (T := TX2) (N := 10) hx hb hts i2 hown hK hP 0 rfl rfl 7 (by decide) f33 (fun _ h9 => h9) rfl dX2_isPerson_6 ?_
    refine lv_icmp_ge (tgt := 16) hx hb dX2_isPerson_9 (by decide) (fun c9 => ?_) (fun c9 => ?_)
    · replace h := fx_ite_t c9 h
      refine lv_iconst (v := 0) hx hb dX2_isPerson_16 (by decide) ?_
      obtain rfl := ret1 h
      exact rI hQ hx hb hr hlocks hAe hP hS rfl rfl dX2_isPerson_17
    · replace h := fx_ite_f c9 h
      refine lv_iconst (v := 1) hx hb dX2_isPerson_12 (by decide) ?_
      refine lv_goto (tgt := 17) hx hb dX2_isPerson_13 (by decide) ?_
      obtain rfl := ret1 h
      exact rI hQ hx hb hr hlocks hAe hP hS rfl rfl dX2_isPerson_17
/-! X2_addThing -/
set_option maxHeartbeats 4000000 in
set_option maxRecDepth 100000 in
theorem c_X2_addThing (l : Launch) (D : va_G) (cI : ClassId) (h0 h1 h2 h3 h4 h5 h6 h7 : Nat) (v : SV) (p1 : Int32) (p2 : Int32) (p3 : Int32) (res : Int32) (u_v : SV) (h : M_X2_addThing v p1 p2 p3 = some (res, u_v)) : mI l yX2_addThing wsX2_addThing { frames := 1, cells := 0, slots := 0, locals := 21 } D cI [.ref h0, .int p1, .int p2, .int p3] (cS h0 h1 h2 h3 h4 h5 h6 h7 cI v) (cS h0 h1 h2 h3 h4 h5 h6 h7 cI u_v) res := by
  intro sz
  refine mStart (cc := cX2_addThing) (maxL := 4) (ret := (some .boolean)) (own := RX2) (by decide) rfl rfl (Nat.le_of_ble_eq_true rfl) (lv := [(0, .ref h0), (1, .int p1), (2, .int p2), (3, .int p3)]) rfl ?_
  intro p e s m args below meth c A ls Q H locs CF hr hlocks hK hP hD hS hA hAe hl hQ
  obtain ⟨hx, hb, hml, hown, hts⟩ := id CF
  have f18 := hts (.fieldLink RX2 18 "MendAnothersBreaking$State" "kinds" "[I") (List.mem_of_getElem? (i := 2) rfl)
  have f21 := hts (.fieldLink RX2 21 "MendAnothersBreaking$State" "figures" "[I") (List.mem_of_getElem? (i := 3) rfl)
  have f24 := hts (.fieldLink RX2 24 "MendAnothersBreaking$State" "owners" "[I") (List.mem_of_getElem? (i := 4) rfl)
  have f27 := hts (.fieldLink RX2 27 "MendAnothersBreaking$State" "wear" "[I") (List.mem_of_getElem? (i := 5) rfl)
  have f30 := hts (.fieldLink RX2 30 "MendAnothersBreaking$State" "breakers" "[I") (List.mem_of_getElem? (i := 6) rfl)
  have f37 := hts (.fieldLink RX2 37 "MendAnothersBreaking$State" "things" "I") (List.mem_of_getElem? (i := 1) rfl)
  have i2 : ∀ w ∈ wsX20, w ∈ wsX2_addThing := fun w h => List.mem_cons_of_mem _ (List.mem_append_right _ h)
  unfold M_X2_addThing at h
  refine lv_aload_n hx hb dX2_addThing_0 rfl (lv_at hl 0 rfl) ?_
  refine va_get (D := D) (ci := 2) (v := .int (sTh v)) (C := RX2) (T := TX2) (N := 10) hx hb hts i2 hown hK hP 0 rfl rfl 8 (by decide) f37 (fun _ h9 => h9) rfl dX2_addThing_1 ?_
  refine lv_bipush (v := 9) hx hb dX2_addThing_4 (by decide) ?_
  refine lv_icmp_ge (tgt := 17) hx hb dX2_addThing_6 (by decide) (fun c6 => ?_) (fun c6 => ?_)
  · replace h := fx_ite_t c6 h
    refine lv_iconst (v := 0) hx hb dX2_addThing_17 (by decide) ?_
    obtain ⟨rfl, rfl⟩ := ret2 h
    exact rI hQ hx hb hr hlocks hAe hP hS rfl rfl dX2_addThing_18
  · replace h := fx_ite_f c6 h
    refine lv_aload_n hx hb dX2_addThing_9 rfl (lv_at hl 0 rfl) ?_
    refine lv_iload_n hx hb dX2_addThing_10 rfl (lv_at hl 3 rfl) ?_
    obtain ⟨r11, q11, h⟩ := bnd1_inv h
    refine kVI (n := 1) (As := [.int p3]) (rest := []) CF hl hK hP hD hS hA (c_X2_isPerson l D cI h0 h1 h2 h3 h4 h5 h6 h7 v p3 r11 q11) gX2_addThing_X2_isPerson rfl dX2_addThing_11 (by decide +kernel) ⟨⟨rfl, rfl⟩, ⟨Nat.le_of_ble_eq_true rfl, Nat.le_of_ble_eq_true rfl⟩, Nat.zero_le _, Nat.zero_le _⟩ (JN.whole rfl) 0 rfl ⟨rfl, rfl⟩ rfl rfl (Nat.le_of_ble_eq_true rfl) (fun H locs hP hD hS => ?_)
    replace hP : va_P D vwCl (cS h0 h1 h2 h3 h4 h5 h6 h7 cI v) H := hP
    replace hD : va_D A (cS h0 h1 h2 h3 h4 h5 h6 h7 cI v) := hD
    refine lv_if_ne (tgt := 19) hx hb dX2_addThing_14 (by decide) (fun c14 => ?_) (fun c14 => ?_)
    · replace h := fx_ite_f c14 h
      refine lv_aload_n hx hb dX2_addThing_19 rfl (lv_at hl 0 rfl) ?_
      refine va_get (D := D) (ci := 2) (v := .ref h3) (C := RX2) (T := TX2) (N := 10) hx hb hts i2 hown hK hP 0 rfl rfl 2 (by decide) f18 (fun _ h9 => h9) rfl dX2_addThing_20 ?_
      refine lv_aload_n hx hb dX2_addThing_23 rfl (lv_at hl 0 rfl) ?_
      refine va_get (D := D) (ci := 2) (v := .int (sTh v)) (C := RX2) (T := TX2) (N := 10) hx hb hts i2 hown hK hP 0 rfl rfl 8 (by decide) f37 (fun _ h9 => h9) rfl dX2_addThing_24 ?_
      refine lv_iload_n hx hb dX2_addThing_27 rfl (lv_at hl 1 rfl) ?_
      obtain ⟨g28, h⟩ := chk_inv h
      refine va_iast (n := 9) (f := (sKi v)) hx hb hK hP hD hS 3 0 rfl rfl g28 dX2_addThing_28 (fun H locs hP hD hS => ?_)
      replace hP : va_P D vwCl (cS h0 h1 h2 h3 h4 h5 h6 h7 cI (sUKi v (upd (sKi v) (Int32.toNatClampNeg (sTh v)) p1))) H := hP
      replace hD : va_D A (cS h0 h1 h2 h3 h4 h5 h6 h7 cI (sUKi v (upd (sKi v) (Int32.toNatClampNeg (sTh v)) p1))) := hD
      refine lv_aload_n hx hb dX2_addThing_29 rfl (lv_at hl 0 rfl) ?_
      refine va_get (D := D) (ci := 2) (v := .ref h4) (C := RX2) (T := TX2) (N := 10) hx hb hts i2 hown hK hP 0 rfl rfl 3 (by decide) f21 (fun _ h9 => h9) rfl dX2_addThing_30 ?_
      refine lv_aload_n hx hb dX2_addThing_33 rfl (lv_at hl 0 rfl) ?_
      refine va_get (D := D) (ci := 2) (v := .int (sTh v)) (C := RX2) (T := TX2) (N := 10) hx hb hts i2 hown hK hP 0 rfl rfl 8 (by decide) f37 (fun _ h9 => h9) rfl dX2_addThing_34 ?_
      refine lv_iload_n hx hb dX2_addThing_37 rfl (lv_at hl 2 rfl) ?_
      obtain ⟨g38, h⟩ := chk_inv h
      refine va_iast (n := 9) (f := (sFi v)) hx hb hK hP hD hS 4 0 rfl rfl g38 dX2_addThing_38 (fun H locs hP hD hS => ?_)
      replace hP : va_P D vwCl (cS h0 h1 h2 h3 h4 h5 h6 h7 cI (sUFi (sUKi v (upd (sKi v) (Int32.toNatClampNeg (sTh v)) p1)) (upd (sFi v) (Int32.toNatClampNeg (sTh v)) p2))) H := hP
      replace hD : va_D A (cS h0 h1 h2 h3 h4 h5 h6 h7 cI (sUFi (sUKi v (upd (sKi v) (Int32.toNatClampNeg (sTh v)) p1)) (upd (sFi v) (Int32.toNatClampNeg (sTh v)) p2))) := hD
      refine lv_aload_n hx hb dX2_addThing_39 rfl (lv_at hl 0 rfl) ?_
      refine va_get (D := D) (ci := 2) (v := .ref h5) (C := RX2) (T := TX2) (N := 10) hx hb hts i2 hown hK hP 0 rfl rfl 4 (by decide) f24 (fun _ h9 => h9) rfl dX2_addThing_40 ?_
      refine lv_aload_n hx hb dX2_addThing_43 rfl (lv_at hl 0 rfl) ?_
      refine va_get (D := D) (ci := 2) (v := .int (sTh v)) (C := RX2) (T := TX2) (N := 10) hx hb hts i2 hown hK hP 0 rfl rfl 8 (by decide) f37 (fun _ h9 => h9) rfl dX2_addThing_44 ?_
      refine lv_iload_n hx hb dX2_addThing_47 rfl (lv_at hl 3 rfl) ?_
      obtain ⟨g48, h⟩ := chk_inv h
      refine va_iast (n := 9) (f := (sOw v)) hx hb hK hP hD hS 5 0 rfl rfl g48 dX2_addThing_48 (fun H locs hP hD hS => ?_)
      replace hP : va_P D vwCl (cS h0 h1 h2 h3 h4 h5 h6 h7 cI (sUOw (sUFi (sUKi v (upd (sKi v) (Int32.toNatClampNeg (sTh v)) p1)) (upd (sFi v) (Int32.toNatClampNeg (sTh v)) p2)) (upd (sOw v) (Int32.toNatClampNeg (sTh v)) p3))) H := hP
      replace hD : va_D A (cS h0 h1 h2 h3 h4 h5 h6 h7 cI (sUOw (sUFi (sUKi v (upd (sKi v) (Int32.toNatClampNeg (sTh v)) p1)) (upd (sFi v) (Int32.toNatClampNeg (sTh v)) p2)) (upd (sOw v) (Int32.toNatClampNeg (sTh v)) p3))) := hD
      refine lv_aload_n hx hb dX2_addThing_49 rfl (lv_at hl 0 rfl) ?_
      refine va_get (D := D) (ci := 2) (v := .ref h6) (C := RX2) (T := TX2) (N := 10) hx hb hts i2 hown hK hP 0 rfl rfl 5 (by decide) f27 (fun _ h9 => h9) rfl dX2_addThing_50 ?_
      refine lv_aload_n hx hb dX2_addThing_53 rfl (lv_at hl 0 rfl) ?_
      refine va_get (D := D) (ci := 2) (v := .int (sTh v)) (C := RX2) (T := TX2) (N := 10) hx hb hts i2 hown hK hP 0 rfl rfl 8 (by decide) f37 (fun _ h9 => h9) rfl dX2_addThing_54 ?_
      refine lv_iconst (v := 0) hx hb dX2_addThing_57 (by decide) ?_
      obtain ⟨g58, h⟩ := chk_inv h
      refine va_iast (n := 9) (f := (sWe v)) hx hb hK hP hD hS 6 0 rfl rfl g58 dX2_addThing_58 (fun H locs hP hD hS => ?_)
      replace hP : va_P D vwCl (cS h0 h1 h2 h3 h4 h5 h6 h7 cI (sUWe (sUOw (sUFi (sUKi v (upd (sKi v) (Int32.toNatClampNeg (sTh v)) p1)) (upd (sFi v) (Int32.toNatClampNeg (sTh v)) p2)) (upd (sOw v) (Int32.toNatClampNeg (sTh v)) p3)) (upd (sWe v) (Int32.toNatClampNeg (sTh v)) (0 : Int32)))) H := hP
      replace hD : va_D A (cS h0 h1 h2 h3 h4 h5 h6 h7 cI (sUWe (sUOw (sUFi (sUKi v (upd (sKi v) (Int32.toNatClampNeg (sTh v)) p1)) (upd (sFi v) (Int32.toNatClampNeg (sTh v)) p2)) (upd (sOw v) (Int32.toNatClampNeg (sTh v)) p3)) (upd (sWe v) (Int32.toNatClampNeg (sTh v)) (0 : Int32)))) := hD
      refine lv_aload_n hx hb dX2_addThing_59 rfl (lv_at hl 0 rfl) ?_
      refine va_get (D := D) (ci := 2) (v := .ref h7) (C := RX2) (T := TX2) (N := 10) hx hb hts i2 hown hK hP 0 rfl rfl 6 (by decide) f30 (fun _ h9 => h9) rfl dX2_addThing_60 ?_
      refine lv_aload_n hx hb dX2_addThing_63 rfl (lv_at hl 0 rfl) ?_
      refine va_get (D := D) (ci := 2) (v := .int (sTh v)) (C := RX2) (T := TX2) (N := 10) hx hb hts i2 hown hK hP 0 rfl rfl 8 (by decide) f37 (fun _ h9 => h9) rfl dX2_addThing_64 ?_
      refine lv_bipush (v := (-9)) hx hb dX2_addThing_67 (by decide) ?_
      obtain ⟨g69, h⟩ := chk_inv h
      refine va_iast (n := 9) (f := (sBr v)) hx hb hK hP hD hS 7 0 rfl rfl g69 dX2_addThing_69 (fun H locs hP hD hS => ?_)
      replace hP : va_P D vwCl (cS h0 h1 h2 h3 h4 h5 h6 h7 cI (sUBr (sUWe (sUOw (sUFi (sUKi v (upd (sKi v) (Int32.toNatClampNeg (sTh v)) p1)) (upd (sFi v) (Int32.toNatClampNeg (sTh v)) p2)) (upd (sOw v) (Int32.toNatClampNeg (sTh v)) p3)) (upd (sWe v) (Int32.toNatClampNeg (sTh v)) (0 : Int32))) (upd (sBr v) (Int32.toNatClampNeg (sTh v)) (-9 : Int32)))) H := hP
      replace hD : va_D A (cS h0 h1 h2 h3 h4 h5 h6 h7 cI (sUBr (sUWe (sUOw (sUFi (sUKi v (upd (sKi v) (Int32.toNatClampNeg (sTh v)) p1)) (upd (sFi v) (Int32.toNatClampNeg (sTh v)) p2)) (upd (sOw v) (Int32.toNatClampNeg (sTh v)) p3)) (upd (sWe v) (Int32.toNatClampNeg (sTh v)) (0 : Int32))) (upd (sBr v) (Int32.toNatClampNeg (sTh v)) (-9 : Int32)))) := hD
      refine lv_aload_n hx hb dX2_addThing_70 rfl (lv_at hl 0 rfl) ?_
      refine lv_dup hx hb dX2_addThing_71 rfl ?_
      refine va_get (D := D) (ci := 2) (v := .int (sTh v)) (C := RX2) (T := TX2) (N := 10) hx hb hts i2 hown hK hP 0 rfl rfl 8 (by decide) f37 (fun _ h9 => h9) rfl dX2_addThing_72 ?_
      refine lv_iconst (v := 1) hx hb dX2_addThing_75 (by decide) ?_
      refine lv_iadd hx hb dX2_addThing_76 ?_
      refine va_put (D := D) (ci := 2) (v := .int ((sTh v) + (1 : Int32))) (ty := .int) (C := RX2) (T := TX2) (N := 10) hx hb hts i2 tyX2 tyX2_ok nmX2 hown hK hP hD hS 0 rfl rfl 8 (by decide) f37 (fun _ h9 => h9) rfl (by decide +kernel) rfl rfl (Nat.le_of_ble_eq_true rfl) dX2_addThing_77 (fun H locs hP hD hS => ?_)
      replace hP : va_P D vwCl (cS h0 h1 h2 h3 h4 h5 h6 h7 cI (sUTh (sUBr (sUWe (sUOw (sUFi (sUKi v (upd (sKi v) (Int32.toNatClampNeg (sTh v)) p1)) (upd (sFi v) (Int32.toNatClampNeg (sTh v)) p2)) (upd (sOw v) (Int32.toNatClampNeg (sTh v)) p3)) (upd (sWe v) (Int32.toNatClampNeg (sTh v)) (0 : Int32))) (upd (sBr v) (Int32.toNatClampNeg (sTh v)) (-9 : Int32))) ((sTh v) + (1 : Int32)))) H := hP
      replace hD : va_D A (cS h0 h1 h2 h3 h4 h5 h6 h7 cI (sUTh (sUBr (sUWe (sUOw (sUFi (sUKi v (upd (sKi v) (Int32.toNatClampNeg (sTh v)) p1)) (upd (sFi v) (Int32.toNatClampNeg (sTh v)) p2)) (upd (sOw v) (Int32.toNatClampNeg (sTh v)) p3)) (upd (sWe v) (Int32.toNatClampNeg (sTh v)) (0 : Int32))) (upd (sBr v) (Int32.toNatClampNeg (sTh v)) (-9 : Int32))) ((sTh v) + (1 : Int32)))) := hD
      refine lv_iconst (v := 1) hx hb dX2_addThing_80 (by decide) ?_
      obtain ⟨rfl, rfl⟩ := ret2 h
      exact rI hQ hx hb hr hlocks hAe hP hS rfl rfl dX2_addThing_81
    · replace h := fx_ite_t c14 h
      refine lv_iconst (v := 0) hx hb dX2_addThing_17 (by decide) ?_
      obtain ⟨rfl, rfl⟩ := ret2 h
      exact rI hQ hx hb hr hlocks hAe hP hS rfl rfl dX2_addThing_18
/-! X2_isThing -/
set_option maxHeartbeats 4000000 in
set_option maxRecDepth 100000 in
theorem c_X2_isThing (l : Launch) (D : va_G) (cI : ClassId) (h0 h1 h2 h3 h4 h5 h6 h7 : Nat) (v : SV) (p1 : Int32) (res : Int32) (h : M_X2_isThing v p1 = some res) : mI l yX2_isThing wsX2_isThing { frames := 0, cells := 0, slots := 0, locals := 0 } D cI [.ref h0, .int p1] (cS h0 h1 h2 h3 h4 h5 h6 h7 cI v) (cS h0 h1 h2 h3 h4 h5 h6 h7 cI v) res := by
  intro sz
  refine mStart (cc := cX2_isThing) (maxL := 2) (ret := (some .boolean)) (own := RX2) (by decide) rfl rfl (Nat.le_of_ble_eq_true rfl) (lv := [(0, .ref h0), (1, .int p1)]) rfl ?_
  intro p e s m args below meth c A ls Q H locs CF hr hlocks hK hP hD hS hA hAe hl hQ
  obtain ⟨hx, hb, hml, hown, hts⟩ := id CF
  have f37 := hts (.fieldLink RX2 37 "MendAnothersBreaking$State" "things" "I") (List.mem_of_getElem? (i := 1) rfl)
  have i2 : ∀ w ∈ wsX20, w ∈ wsX2_isThing := fun w h => List.mem_cons_of_mem _ (List.mem_append_right _ h)
  unfold M_X2_isThing at h
  refine lv_iload_n hx hb dX2_isThing_0 rfl (lv_at hl 1 rfl) ?_
  refine lv_if_lt (tgt := 16) hx hb dX2_isThing_1 (by decide) (fun c1 => ?_) (fun c1 => ?_)
  · replace h := fx_ite_t c1 h
    refine lv_iconst (v := 0) hx hb dX2_isThing_16 (by decide) ?_
    obtain rfl := ret1 h
    exact rI hQ hx hb hr hlocks hAe hP hS rfl rfl dX2_isThing_17
  · replace h := fx_ite_f c1 h
    refine lv_iload_n hx hb dX2_isThing_4 rfl (lv_at hl 1 rfl) ?_
    refine lv_aload_n hx hb dX2_isThing_5 rfl (lv_at hl 0 rfl) ?_
    refine va_get (D := D) (ci := 2) (v := .int (sTh v)) (C := RX2) (T := TX2) (N := 10) hx hb hts i2 hown hK hP 0 rfl rfl 8 (by decide) f37 (fun _ h9 => h9) rfl dX2_isThing_6 ?_
    refine lv_icmp_ge (tgt := 16) hx hb dX2_isThing_9 (by decide) (fun c9 => ?_) (fun c9 => ?_)
    · replace h := fx_ite_t c9 h
      refine lv_iconst (v := 0) hx hb dX2_isThing_16 (by decide) ?_
      obtain rfl := ret1 h
      exact rI hQ hx hb hr hlocks hAe hP hS rfl rfl dX2_isThing_17
    · replace h := fx_ite_f c9 h
      refine lv_iconst (v := 1) hx hb dX2_isThing_12 (by decide) ?_
      refine lv_goto (tgt := 17) hx hb dX2_isThing_13 (by decide) ?_
      obtain rfl := ret1 h
      exact rI hQ hx hb hr hlocks hAe hP hS rfl rfl dX2_isThing_17
/-! X2_isWhole -/
set_option maxHeartbeats 4000000 in
set_option maxRecDepth 100000 in
theorem c_X2_isWhole (l : Launch) (D : va_G) (cI : ClassId) (h0 h1 h2 h3 h4 h5 h6 h7 : Nat) (v : SV) (p1 : Int32) (res : Int32) (h : M_X2_isWhole v p1 = some res) : mI l yX2_isWhole wsX2_isWhole { frames := 0, cells := 0, slots := 0, locals := 0 } D cI [.ref h0, .int p1] (cS h0 h1 h2 h3 h4 h5 h6 h7 cI v) (cS h0 h1 h2 h3 h4 h5 h6 h7 cI v) res := by
  intro sz
  refine mStart (cc := cX2_isWhole) (maxL := 2) (ret := (some .boolean)) (own := RX2) (by decide) rfl rfl (Nat.le_of_ble_eq_true rfl) (lv := [(0, .ref h0), (1, .int p1)]) rfl ?_
  intro p e s m args below meth c A ls Q H locs CF hr hlocks hK hP hD hS hA hAe hl hQ
  obtain ⟨hx, hb, hml, hown, hts⟩ := id CF
  have f30 := hts (.fieldLink RX2 30 "MendAnothersBreaking$State" "breakers" "[I") (List.mem_of_getElem? (i := 1) rfl)
  have i2 : ∀ w ∈ wsX20, w ∈ wsX2_isWhole := fun w h => List.mem_cons_of_mem _ (List.mem_append_right _ h)
  unfold M_X2_isWhole at h
  refine lv_aload_n hx hb dX2_isWhole_0 rfl (lv_at hl 0 rfl) ?_
  refine va_get (D := D) (ci := 2) (v := .ref h7) (C := RX2) (T := TX2) (N := 10) hx hb hts i2 hown hK hP 0 rfl rfl 6 (by decide) f30 (fun _ h9 => h9) rfl dX2_isWhole_1 ?_
  refine lv_iload_n hx hb dX2_isWhole_4 rfl (lv_at hl 1 rfl) ?_
  obtain ⟨g5, h⟩ := chk_inv h
  refine va_iald (n := 9) (f := (sBr v)) hx hb hK hP 7 0 rfl rfl g5 dX2_isWhole_5 ?_
  refine lv_bipush (v := (-9)) hx hb dX2_isWhole_6 (by decide) ?_
  refine lv_icmp_ne (tgt := 15) hx hb dX2_isWhole_8 (by decide) (fun c8 => ?_) (fun c8 => ?_)
  · replace h := fx_ite_f c8 h
    refine lv_iconst (v := 0) hx hb dX2_isWhole_15 (by decide) ?_
    obtain rfl := ret1 h
    exact rI hQ hx hb hr hlocks hAe hP hS rfl rfl dX2_isWhole_16
  · replace h := fx_ite_t c8 h
    refine lv_iconst (v := 1) hx hb dX2_isWhole_11 (by decide) ?_
    refine lv_goto (tgt := 16) hx hb dX2_isWhole_12 (by decide) ?_
    obtain rfl := ret1 h
    exact rI hQ hx hb hr hlocks hAe hP hS rfl rfl dX2_isWhole_16
/-! X2_moreWearOf -/
set_option maxHeartbeats 4000000 in
set_option maxRecDepth 100000 in
theorem c_X2_moreWearOf (l : Launch) (D : va_G) (cI : ClassId) (h0 h1 h2 h3 h4 h5 h6 h7 : Nat) (v : SV) (p1 : Int32) (p2 : Int32) (res : Int32) (h : M_X2_moreWearOf v p1 p2 = some res) : mI l yX2_moreWearOf wsX2_moreWearOf { frames := 0, cells := 0, slots := 0, locals := 0 } D cI [.ref h0, .int p1, .int p2] (cS h0 h1 h2 h3 h4 h5 h6 h7 cI v) (cS h0 h1 h2 h3 h4 h5 h6 h7 cI v) res := by
  intro sz
  refine mStart (cc := cX2_moreWearOf) (maxL := 6) (ret := (some .int)) (own := RX2) (by decide) rfl rfl (Nat.le_of_ble_eq_true rfl) (lv := [(0, .ref h0), (1, .int p1), (2, .int p2)]) rfl ?_
  intro p e s m args below meth c A ls Q H locs CF hr hlocks hK hP hD hS hA hAe hl hQ
  obtain ⟨hx, hb, hml, hown, hts⟩ := id CF
  have f18 := hts (.fieldLink RX2 18 "MendAnothersBreaking$State" "kinds" "[I") (List.mem_of_getElem? (i := 1) rfl)
  have f21 := hts (.fieldLink RX2 21 "MendAnothersBreaking$State" "figures" "[I") (List.mem_of_getElem? (i := 2) rfl)
  have i2 : ∀ w ∈ wsX20, w ∈ wsX2_moreWearOf := fun w h => List.mem_cons_of_mem _ (List.mem_append_right _ h)
  unfold M_X2_moreWearOf at h
  refine lv_iload_n hx hb dX2_moreWearOf_0 rfl (lv_at hl 2 rfl) ?_
  refine lv_iconst (v := 2) hx hb dX2_moreWearOf_1 (by decide) ?_
  refine lv_irem hx hb dX2_moreWearOf_2 (by decide) ?_
  refine lv_if_ne (tgt := 10) hx hb dX2_moreWearOf_3 (by decide) (fun c3 => ?_) (fun c3 => ?_)
  · replace h := fx_ite_f c3 h
    refine lv_iconst (v := 0) hx hb dX2_moreWearOf_10 (by decide) ?_
    refine lv_istore_n (lv' := [(3, .int (0 : Int32)), (0, .ref h0), (1, .int p1), (2, .int p2)]) hx hb dX2_moreWearOf_11 rfl hl (by decide) rfl (fun ls hl => ?_)
    refine lv_iload_n hx hb dX2_moreWearOf_12 rfl (lv_at hl 0 rfl) ?_
    refine lv_iconst (v := 1) hx hb dX2_moreWearOf_13 (by decide) ?_
    refine lv_iadd hx hb dX2_moreWearOf_14 ?_
    refine lv_istore (lv' := [(4, .int ((0 : Int32) + (1 : Int32))), (3, .int (0 : Int32)), (0, .ref h0), (1, .int p1), (2, .int p2)]) hx hb dX2_moreWearOf_15 hl (by decide) rfl (fun ls hl => ?_)
    refine lv_iload hx hb dX2_moreWearOf_17 (lv_at hl 0 rfl) ?_
    refine lv_iconst (v := 1) hx hb dX2_moreWearOf_19 (by decide) ?_
    refine lv_iadd hx hb dX2_moreWearOf_20 ?_
    refine lv_istore (lv' := [(5, .int (((0 : Int32) + (1 : Int32)) + (1 : Int32))), (4, .int ((0 : Int32) + (1 : Int32))), (3, .int (0 : Int32)), (0, .ref h0), (1, .int p1), (2, .int p2)]) hx hb dX2_moreWearOf_21 hl (by decide) rfl (fun ls hl => ?_)
    refine lv_aload_n hx hb dX2_moreWearOf_23 rfl (lv_at hl 3 rfl) ?_
    refine va_get (D := D) (ci := 2) (v := .ref h3) (C := RX2) (T := TX2) (N := 10) hx hb hts i2 hown hK hP 0 rfl rfl 2 (by decide) f18 (fun _ h9 => h9) rfl dX2_moreWearOf_24 ?_
    refine lv_iload_n hx hb dX2_moreWearOf_27 rfl (lv_at hl 4 rfl) ?_
    obtain ⟨g28, h⟩ := chk_inv h
    refine va_iald (n := 9) (f := (sKi v)) hx hb hK hP 3 0 rfl rfl g28 dX2_moreWearOf_28 ?_
    by_cases s29_1 : ((sKi v) (Int32.toNatClampNeg p1)) = 1
    · replace h := fx_ite_t s29_1 h
      refine lv_tableIn (tgt := 64) hx hb dX2_moreWearOf_29 (by rw [s29_1]; decide) (by rw [s29_1]; decide) (off := 35) (by rw [s29_1]; rfl) (by decide) ?_
      refine lv_iconst (v := 0) hx hb dX2_moreWearOf_64 (by decide) ?_
      obtain rfl := ret1 h
      exact rI hQ hx hb hr hlocks hAe hP hS rfl rfl dX2_moreWearOf_65
    replace h := fx_ite_f s29_1 h
    by_cases s29_2 : ((sKi v) (Int32.toNatClampNeg p1)) = 2
    · replace h := fx_ite_t s29_2 h
      refine lv_tableIn (tgt := 66) hx hb dX2_moreWearOf_29 (by rw [s29_2]; decide) (by rw [s29_2]; decide) (off := 37) (by rw [s29_2]; rfl) (by decide) ?_
      refine lv_iload hx hb dX2_moreWearOf_66 (lv_at hl 1 rfl) ?_
      obtain rfl := ret1 h
      exact rI hQ hx hb hr hlocks hAe hP hS rfl rfl dX2_moreWearOf_68
    replace h := fx_ite_f s29_2 h
    by_cases s29_3 : ((sKi v) (Int32.toNatClampNeg p1)) = 3
    · replace h := fx_ite_t s29_3 h
      refine lv_tableIn (tgt := 69) hx hb dX2_moreWearOf_29 (by rw [s29_3]; decide) (by rw [s29_3]; decide) (off := 40) (by rw [s29_3]; rfl) (by decide) ?_
      refine lv_iload hx hb dX2_moreWearOf_69 (lv_at hl 0 rfl) ?_
      obtain rfl := ret1 h
      exact rI hQ hx hb hr hlocks hAe hP hS rfl rfl dX2_moreWearOf_71
    replace h := fx_ite_f s29_3 h
    by_cases s29_4 : ((sKi v) (Int32.toNatClampNeg p1)) = 4
    · replace h := fx_ite_t s29_4 h
      refine lv_tableIn (tgt := 72) hx hb dX2_moreWearOf_29 (by rw [s29_4]; decide) (by rw [s29_4]; decide) (off := 43) (by rw [s29_4]; rfl) (by decide) ?_
      refine lv_iload_n hx hb dX2_moreWearOf_72 rfl (lv_at hl 2 rfl) ?_
      refine lv_aload_n hx hb dX2_moreWearOf_73 rfl (lv_at hl 3 rfl) ?_
      refine va_get (D := D) (ci := 2) (v := .ref h4) (C := RX2) (T := TX2) (N := 10) hx hb hts i2 hown hK hP 0 rfl rfl 3 (by decide) f21 (fun _ h9 => h9) rfl dX2_moreWearOf_74 ?_
      refine lv_iload_n hx hb dX2_moreWearOf_77 rfl (lv_at hl 4 rfl) ?_
      obtain ⟨g78, h⟩ := chk_inv h
      refine va_iald (n := 9) (f := (sFi v)) hx hb hK hP 4 0 rfl rfl g78 dX2_moreWearOf_78 ?_
      refine lv_iconst (v := 4) hx hb dX2_moreWearOf_79 (by decide) ?_
      refine lv_idiv hx hb dX2_moreWearOf_80 (by decide) ?_
      refine lv_iadd hx hb dX2_moreWearOf_81 ?_
      obtain rfl := ret1 h
      exact rI hQ hx hb hr hlocks hAe hP hS rfl rfl dX2_moreWearOf_82
    replace h := fx_ite_f s29_4 h
    by_cases s29_5 : ((sKi v) (Int32.toNatClampNeg p1)) = 5
    · replace h := fx_ite_t s29_5 h
      refine lv_tableIn (tgt := 83) hx hb dX2_moreWearOf_29 (by rw [s29_5]; decide) (by rw [s29_5]; decide) (off := 54) (by rw [s29_5]; rfl) (by decide) ?_
      refine lv_iload hx hb dX2_moreWearOf_83 (lv_at hl 0 rfl) ?_
      refine lv_iconst (v := 2) hx hb dX2_moreWearOf_85 (by decide) ?_
      refine lv_idiv hx hb dX2_moreWearOf_86 (by decide) ?_
      obtain rfl := ret1 h
      exact rI hQ hx hb hr hlocks hAe hP hS rfl rfl dX2_moreWearOf_87
    replace h := fx_ite_f s29_5 h
    refine lv_tableOut (tgt := 88) hx hb dX2_moreWearOf_29 (by have a_s29_1 : Int32.toInt ((sKi v) (Int32.toNatClampNeg p1)) ≠ 1 := fx_toInt_ne s29_1; have a_s29_2 : Int32.toInt ((sKi v) (Int32.toNatClampNeg p1)) ≠ 2 := fx_toInt_ne s29_2; have a_s29_3 : Int32.toInt ((sKi v) (Int32.toNatClampNeg p1)) ≠ 3 := fx_toInt_ne s29_3; have a_s29_4 : Int32.toInt ((sKi v) (Int32.toNatClampNeg p1)) ≠ 4 := fx_toInt_ne s29_4; have a_s29_5 : Int32.toInt ((sKi v) (Int32.toNatClampNeg p1)) ≠ 5 := fx_toInt_ne s29_5; omega) (by decide) ?_
    refine lv_iload_n hx hb dX2_moreWearOf_88 rfl (lv_at hl 2 rfl) ?_
    obtain rfl := ret1 h
    exact rI hQ hx hb hr hlocks hAe hP hS rfl rfl dX2_moreWearOf_89
  · replace h := fx_ite_t c3 h
    refine lv_iconst (v := 1) hx hb dX2_moreWearOf_6 (by decide) ?_
    refine lv_goto (tgt := 11) hx hb dX2_moreWearOf_7 (by decide) ?_
    refine lv_istore_n (lv' := [(3, .int (1 : Int32)), (0, .ref h0), (1, .int p1), (2, .int p2)]) hx hb dX2_moreWearOf_11 rfl hl (by decide) rfl (fun ls hl => ?_)
    refine lv_iload_n hx hb dX2_moreWearOf_12 rfl (lv_at hl 0 rfl) ?_
    refine lv_iconst (v := 1) hx hb dX2_moreWearOf_13 (by decide) ?_
    refine lv_iadd hx hb dX2_moreWearOf_14 ?_
    refine lv_istore (lv' := [(4, .int ((1 : Int32) + (1 : Int32))), (3, .int (1 : Int32)), (0, .ref h0), (1, .int p1), (2, .int p2)]) hx hb dX2_moreWearOf_15 hl (by decide) rfl (fun ls hl => ?_)
    refine lv_iload hx hb dX2_moreWearOf_17 (lv_at hl 0 rfl) ?_
    refine lv_iconst (v := 1) hx hb dX2_moreWearOf_19 (by decide) ?_
    refine lv_iadd hx hb dX2_moreWearOf_20 ?_
    refine lv_istore (lv' := [(5, .int (((1 : Int32) + (1 : Int32)) + (1 : Int32))), (4, .int ((1 : Int32) + (1 : Int32))), (3, .int (1 : Int32)), (0, .ref h0), (1, .int p1), (2, .int p2)]) hx hb dX2_moreWearOf_21 hl (by decide) rfl (fun ls hl => ?_)
    refine lv_aload_n hx hb dX2_moreWearOf_23 rfl (lv_at hl 3 rfl) ?_
    refine va_get (D := D) (ci := 2) (v := .ref h3) (C := RX2) (T := TX2) (N := 10) hx hb hts i2 hown hK hP 0 rfl rfl 2 (by decide) f18 (fun _ h9 => h9) rfl dX2_moreWearOf_24 ?_
    refine lv_iload_n hx hb dX2_moreWearOf_27 rfl (lv_at hl 4 rfl) ?_
    obtain ⟨g28, h⟩ := chk_inv h
    refine va_iald (n := 9) (f := (sKi v)) hx hb hK hP 3 0 rfl rfl g28 dX2_moreWearOf_28 ?_
    by_cases s29_1 : ((sKi v) (Int32.toNatClampNeg p1)) = 1
    · replace h := fx_ite_t s29_1 h
      refine lv_tableIn (tgt := 64) hx hb dX2_moreWearOf_29 (by rw [s29_1]; decide) (by rw [s29_1]; decide) (off := 35) (by rw [s29_1]; rfl) (by decide) ?_
      refine lv_iconst (v := 0) hx hb dX2_moreWearOf_64 (by decide) ?_
      obtain rfl := ret1 h
      exact rI hQ hx hb hr hlocks hAe hP hS rfl rfl dX2_moreWearOf_65
    replace h := fx_ite_f s29_1 h
    by_cases s29_2 : ((sKi v) (Int32.toNatClampNeg p1)) = 2
    · replace h := fx_ite_t s29_2 h
      refine lv_tableIn (tgt := 66) hx hb dX2_moreWearOf_29 (by rw [s29_2]; decide) (by rw [s29_2]; decide) (off := 37) (by rw [s29_2]; rfl) (by decide) ?_
      refine lv_iload hx hb dX2_moreWearOf_66 (lv_at hl 1 rfl) ?_
      obtain rfl := ret1 h
      exact rI hQ hx hb hr hlocks hAe hP hS rfl rfl dX2_moreWearOf_68
    replace h := fx_ite_f s29_2 h
    by_cases s29_3 : ((sKi v) (Int32.toNatClampNeg p1)) = 3
    · replace h := fx_ite_t s29_3 h
      refine lv_tableIn (tgt := 69) hx hb dX2_moreWearOf_29 (by rw [s29_3]; decide) (by rw [s29_3]; decide) (off := 40) (by rw [s29_3]; rfl) (by decide) ?_
      refine lv_iload hx hb dX2_moreWearOf_69 (lv_at hl 0 rfl) ?_
      obtain rfl := ret1 h
      exact rI hQ hx hb hr hlocks hAe hP hS rfl rfl dX2_moreWearOf_71
    replace h := fx_ite_f s29_3 h
    by_cases s29_4 : ((sKi v) (Int32.toNatClampNeg p1)) = 4
    · replace h := fx_ite_t s29_4 h
      refine lv_tableIn (tgt := 72) hx hb dX2_moreWearOf_29 (by rw [s29_4]; decide) (by rw [s29_4]; decide) (off := 43) (by rw [s29_4]; rfl) (by decide) ?_
      refine lv_iload_n hx hb dX2_moreWearOf_72 rfl (lv_at hl 2 rfl) ?_
      refine lv_aload_n hx hb dX2_moreWearOf_73 rfl (lv_at hl 3 rfl) ?_
      refine va_get (D := D) (ci := 2) (v := .ref h4) (C := RX2) (T := TX2) (N := 10) hx hb hts i2 hown hK hP 0 rfl rfl 3 (by decide) f21 (fun _ h9 => h9) rfl dX2_moreWearOf_74 ?_
      refine lv_iload_n hx hb dX2_moreWearOf_77 rfl (lv_at hl 4 rfl) ?_
      obtain ⟨g78, h⟩ := chk_inv h
      refine va_iald (n := 9) (f := (sFi v)) hx hb hK hP 4 0 rfl rfl g78 dX2_moreWearOf_78 ?_
      refine lv_iconst (v := 4) hx hb dX2_moreWearOf_79 (by decide) ?_
      refine lv_idiv hx hb dX2_moreWearOf_80 (by decide) ?_
      refine lv_iadd hx hb dX2_moreWearOf_81 ?_
      obtain rfl := ret1 h
      exact rI hQ hx hb hr hlocks hAe hP hS rfl rfl dX2_moreWearOf_82
    replace h := fx_ite_f s29_4 h
    by_cases s29_5 : ((sKi v) (Int32.toNatClampNeg p1)) = 5
    · replace h := fx_ite_t s29_5 h
      refine lv_tableIn (tgt := 83) hx hb dX2_moreWearOf_29 (by rw [s29_5]; decide) (by rw [s29_5]; decide) (off := 54) (by rw [s29_5]; rfl) (by decide) ?_
      refine lv_iload hx hb dX2_moreWearOf_83 (lv_at hl 0 rfl) ?_
      refine lv_iconst (v := 2) hx hb dX2_moreWearOf_85 (by decide) ?_
      refine lv_idiv hx hb dX2_moreWearOf_86 (by decide) ?_
      obtain rfl := ret1 h
      exact rI hQ hx hb hr hlocks hAe hP hS rfl rfl dX2_moreWearOf_87
    replace h := fx_ite_f s29_5 h
    refine lv_tableOut (tgt := 88) hx hb dX2_moreWearOf_29 (by have a_s29_1 : Int32.toInt ((sKi v) (Int32.toNatClampNeg p1)) ≠ 1 := fx_toInt_ne s29_1; have a_s29_2 : Int32.toInt ((sKi v) (Int32.toNatClampNeg p1)) ≠ 2 := fx_toInt_ne s29_2; have a_s29_3 : Int32.toInt ((sKi v) (Int32.toNatClampNeg p1)) ≠ 3 := fx_toInt_ne s29_3; have a_s29_4 : Int32.toInt ((sKi v) (Int32.toNatClampNeg p1)) ≠ 4 := fx_toInt_ne s29_4; have a_s29_5 : Int32.toInt ((sKi v) (Int32.toNatClampNeg p1)) ≠ 5 := fx_toInt_ne s29_5; omega) (by decide) ?_
    refine lv_iload_n hx hb dX2_moreWearOf_88 rfl (lv_at hl 2 rfl) ?_
    obtain rfl := ret1 h
    exact rI hQ hx hb hr hlocks hAe hP hS rfl rfl dX2_moreWearOf_89
/-! X2_wearMore -/
set_option maxHeartbeats 4000000 in
set_option maxRecDepth 100000 in
theorem c_X2_wearMore (l : Launch) (D : va_G) (cI : ClassId) (h0 h1 h2 h3 h4 h5 h6 h7 : Nat) (v : SV) (p1 : Int32) (p2 : Int32) (u_v : SV) (h : M_X2_wearMore v p1 p2 = some u_v) : mV l yX2_wearMore wsX2_wearMore { frames := 0, cells := 0, slots := 0, locals := 0 } D cI [.ref h0, .int p1, .int p2] (cS h0 h1 h2 h3 h4 h5 h6 h7 cI v) (cS h0 h1 h2 h3 h4 h5 h6 h7 cI u_v) := by
  intro sz
  refine mStart (cc := cX2_wearMore) (maxL := 3) (ret := none) (own := RX2) (by decide) rfl rfl (Nat.le_of_ble_eq_true rfl) (lv := [(0, .ref h0), (1, .int p1), (2, .int p2)]) rfl ?_
  intro p e s m args below meth c A ls Q H locs CF hr hlocks hK hP hD hS hA hAe hl hQ
  obtain ⟨hx, hb, hml, hown, hts⟩ := id CF
  have f27 := hts (.fieldLink RX2 27 "MendAnothersBreaking$State" "wear" "[I") (List.mem_of_getElem? (i := 1) rfl)
  have f30 := hts (.fieldLink RX2 30 "MendAnothersBreaking$State" "breakers" "[I") (List.mem_of_getElem? (i := 2) rfl)
  have i2 : ∀ w ∈ wsX20, w ∈ wsX2_wearMore := fun w h => List.mem_cons_of_mem _ (List.mem_append_right _ h)
  unfold M_X2_wearMore at h
  refine lv_aload_n hx hb dX2_wearMore_0 rfl (lv_at hl 0 rfl) ?_
  refine va_get (D := D) (ci := 2) (v := .ref h6) (C := RX2) (T := TX2) (N := 10) hx hb hts i2 hown hK hP 0 rfl rfl 5 (by decide) f27 (fun _ h9 => h9) rfl dX2_wearMore_1 ?_
  refine lv_iload_n hx hb dX2_wearMore_4 rfl (lv_at hl 1 rfl) ?_
  refine lv_dup2_11 hx hb dX2_wearMore_5 rfl rfl ?_
  obtain ⟨g6, h⟩ := chk_inv h
  refine va_iald (n := 9) (f := (sWe v)) hx hb hK hP 6 0 rfl rfl g6 dX2_wearMore_6 ?_
  refine lv_iload_n hx hb dX2_wearMore_7 rfl (lv_at hl 2 rfl) ?_
  refine lv_iadd hx hb dX2_wearMore_8 ?_
  obtain ⟨g9, h⟩ := chk_inv h
  refine va_iast (n := 9) (f := (sWe v)) hx hb hK hP hD hS 6 0 rfl rfl g9 dX2_wearMore_9 (fun H locs hP hD hS => ?_)
  replace hP : va_P D vwCl (cS h0 h1 h2 h3 h4 h5 h6 h7 cI (sUWe v (upd (sWe v) (Int32.toNatClampNeg p1) (((sWe v) (Int32.toNatClampNeg p1)) + p2)))) H := hP
  replace hD : va_D A (cS h0 h1 h2 h3 h4 h5 h6 h7 cI (sUWe v (upd (sWe v) (Int32.toNatClampNeg p1) (((sWe v) (Int32.toNatClampNeg p1)) + p2)))) := hD
  refine lv_aload_n hx hb dX2_wearMore_10 rfl (lv_at hl 0 rfl) ?_
  refine va_get (D := D) (ci := 2) (v := .ref h6) (C := RX2) (T := TX2) (N := 10) hx hb hts i2 hown hK hP 0 rfl rfl 5 (by decide) f27 (fun _ h9 => h9) rfl dX2_wearMore_11 ?_
  refine lv_iload_n hx hb dX2_wearMore_14 rfl (lv_at hl 1 rfl) ?_
  obtain ⟨g15, h⟩ := chk_inv h
  refine va_iald (n := 9) (f := (upd (sWe v) (Int32.toNatClampNeg p1) (((sWe v) (Int32.toNatClampNeg p1)) + p2))) hx hb hK hP 6 0 rfl rfl g15 dX2_wearMore_15 ?_
  refine lv_bipush (v := 9) hx hb dX2_wearMore_16 (by decide) ?_
  refine lv_icmp_le (tgt := 37) hx hb dX2_wearMore_18 (by decide) (fun c18 => ?_) (fun c18 => ?_)
  · replace h := fx_ite_t c18 h
    obtain rfl := ret1 h
    exact rV hQ hx hb hr hlocks hAe hP hS dX2_wearMore_37
  · replace h := fx_ite_f c18 h
    refine lv_aload_n hx hb dX2_wearMore_21 rfl (lv_at hl 0 rfl) ?_
    refine va_get (D := D) (ci := 2) (v := .ref h6) (C := RX2) (T := TX2) (N := 10) hx hb hts i2 hown hK hP 0 rfl rfl 5 (by decide) f27 (fun _ h9 => h9) rfl dX2_wearMore_22 ?_
    refine lv_iload_n hx hb dX2_wearMore_25 rfl (lv_at hl 1 rfl) ?_
    refine lv_bipush (v := 9) hx hb dX2_wearMore_26 (by decide) ?_
    obtain ⟨g28, h⟩ := chk_inv h
    refine va_iast (n := 9) (f := (upd (sWe v) (Int32.toNatClampNeg p1) (((sWe v) (Int32.toNatClampNeg p1)) + p2))) hx hb hK hP hD hS 6 0 rfl rfl g28 dX2_wearMore_28 (fun H locs hP hD hS => ?_)
    replace hP : va_P D vwCl (cS h0 h1 h2 h3 h4 h5 h6 h7 cI (sUWe v (upd (upd (sWe v) (Int32.toNatClampNeg p1) (((sWe v) (Int32.toNatClampNeg p1)) + p2)) (Int32.toNatClampNeg p1) (9 : Int32)))) H := hP
    replace hD : va_D A (cS h0 h1 h2 h3 h4 h5 h6 h7 cI (sUWe v (upd (upd (sWe v) (Int32.toNatClampNeg p1) (((sWe v) (Int32.toNatClampNeg p1)) + p2)) (Int32.toNatClampNeg p1) (9 : Int32)))) := hD
    refine lv_aload_n hx hb dX2_wearMore_29 rfl (lv_at hl 0 rfl) ?_
    refine va_get (D := D) (ci := 2) (v := .ref h7) (C := RX2) (T := TX2) (N := 10) hx hb hts i2 hown hK hP 0 rfl rfl 6 (by decide) f30 (fun _ h9 => h9) rfl dX2_wearMore_30 ?_
    refine lv_iload_n hx hb dX2_wearMore_33 rfl (lv_at hl 1 rfl) ?_
    refine lv_bipush (v := (-8)) hx hb dX2_wearMore_34 (by decide) ?_
    obtain ⟨g36, h⟩ := chk_inv h
    refine va_iast (n := 9) (f := (sBr v)) hx hb hK hP hD hS 7 0 rfl rfl g36 dX2_wearMore_36 (fun H locs hP hD hS => ?_)
    replace hP : va_P D vwCl (cS h0 h1 h2 h3 h4 h5 h6 h7 cI (sUBr (sUWe v (upd (upd (sWe v) (Int32.toNatClampNeg p1) (((sWe v) (Int32.toNatClampNeg p1)) + p2)) (Int32.toNatClampNeg p1) (9 : Int32))) (upd (sBr v) (Int32.toNatClampNeg p1) (-8 : Int32)))) H := hP
    replace hD : va_D A (cS h0 h1 h2 h3 h4 h5 h6 h7 cI (sUBr (sUWe v (upd (upd (sWe v) (Int32.toNatClampNeg p1) (((sWe v) (Int32.toNatClampNeg p1)) + p2)) (Int32.toNatClampNeg p1) (9 : Int32))) (upd (sBr v) (Int32.toNatClampNeg p1) (-8 : Int32)))) := hD
    obtain rfl := ret1 h
    exact rV hQ hx hb hr hlocks hAe hP hS dX2_wearMore_37
/-! X2_wearAll -/
set_option maxHeartbeats 4000000 in
set_option maxRecDepth 100000 in
theorem c_X2_wearAll (l : Launch) (D : va_G) (cI : ClassId) (h0 h1 h2 h3 h4 h5 h6 h7 : Nat) (v : SV) (p1 : Int32) (u_v : SV) (h : M_X2_wearAll v p1 = some u_v) : mV l yX2_wearAll wsX2_wearAll { frames := 1, cells := 0, slots := 0, locals := 25 } D cI [.ref h0, .int p1] (cS h0 h1 h2 h3 h4 h5 h6 h7 cI v) (cS h0 h1 h2 h3 h4 h5 h6 h7 cI u_v) := by
  intro sz
  refine mStart (cc := cX2_wearAll) (maxL := 3) (ret := none) (own := RX2) (by decide) rfl rfl (Nat.le_of_ble_eq_true rfl) (lv := [(0, .ref h0), (1, .int p1)]) rfl ?_
  intro p e s m args below meth c A ls Q H locs CF hr hlocks hK hP hD hS hA hAe hl hQ
  obtain ⟨hx, hb, hml, hown, hts⟩ := id CF
  have f37 := hts (.fieldLink RX2 37 "MendAnothersBreaking$State" "things" "I") (List.mem_of_getElem? (i := 1) rfl)
  have f40 := hts (.fieldLink RX2 40 "MendAnothersBreaking$State" "day" "I") (List.mem_of_getElem? (i := 2) rfl)
  have i2 : ∀ w ∈ wsX20, w ∈ wsX2_wearAll := fun w h => List.mem_cons_of_mem _ (List.mem_append_right _ h)
  have L2 : ∀ (n : Nat) (x1 : Int32) (x2 : Int32) (v : SV), fuel (fun _ _ => none) (B_X2_wearAll_2 x1) n x2 v = some u_v → 
      ∀ (H : Heap) (locs : List Loc) (ls : Array Slot), va_P D vwCl (cS h0 h1 h2 h3 h4 h5 h6 h7 cI v) H → va_D A (cS h0 h1 h2 h3 h4 h5 h6 h7 cI v) → va_S A s.heap H locs → lv_has ls 3 [(0, .ref h0), (1, .int x1), (2, .int x2)] → W p l e { frames := 1, cells := 0, slots := 0, locals := 25 } s m args below meth c H locs 0 0 Q (F0 m 2 ls []) := by
    intro n
    induction n with
    | zero =>
      intro x1 x2 v h
      exact nomatch (show (none : Option (SV)) = some u_v from h)
    | succ n ih =>
      intro x1 x2 v h  H locs ls hP hD hS hl
      replace h : B_X2_wearAll_2 x1 (fuel (fun _ _ => none) (B_X2_wearAll_2 x1) n) x2 v = some u_v := h
      unfold B_X2_wearAll_2 at h
      refine lv_iload_n hx hb dX2_wearAll_2 rfl (lv_at hl 2 rfl) ?_
      refine lv_aload_n hx hb dX2_wearAll_3 rfl (lv_at hl 0 rfl) ?_
      refine va_get (D := D) (ci := 2) (v := .int (sTh v)) (C := RX2) (T := TX2) (N := 10) hx hb hts i2 hown hK hP 0 rfl rfl 8 (by decide) f37 (fun _ h9 => h9) rfl dX2_wearAll_4 ?_
      refine lv_icmp_ge (tgt := 40) hx hb dX2_wearAll_7 (by decide) (fun c7 => ?_) (fun c7 => ?_)
      · replace h := fx_ite_t c7 h
        obtain rfl := ret1 h
        exact rV hQ hx hb hr hlocks hAe hP hS dX2_wearAll_40
      · replace h := fx_ite_f c7 h
        refine lv_aload_n hx hb dX2_wearAll_10 rfl (lv_at hl 0 rfl) ?_
        refine lv_iload_n hx hb dX2_wearAll_11 rfl (lv_at hl 2 rfl) ?_
        obtain ⟨r12, q12, h⟩ := bnd1_inv h
        refine kVI (n := 1) (As := [.int x2]) (rest := []) CF hl hK hP hD hS hA (c_X2_isWhole l D cI h0 h1 h2 h3 h4 h5 h6 h7 v x2 r12 q12) gX2_wearAll_X2_isWhole rfl dX2_wearAll_12 (by decide +kernel) ⟨⟨rfl, rfl⟩, ⟨Nat.le_of_ble_eq_true rfl, Nat.le_of_ble_eq_true rfl⟩, Nat.zero_le _, Nat.zero_le _⟩ (JN.whole rfl) 0 rfl ⟨rfl, rfl⟩ rfl rfl (Nat.le_of_ble_eq_true rfl) (fun H locs hP hD hS => ?_)
        replace hP : va_P D vwCl (cS h0 h1 h2 h3 h4 h5 h6 h7 cI v) H := hP
        replace hD : va_D A (cS h0 h1 h2 h3 h4 h5 h6 h7 cI v) := hD
        refine lv_if_eq (tgt := 34) hx hb dX2_wearAll_15 (by decide) (fun c15 => ?_) (fun c15 => ?_)
        · replace h := fx_ite_t c15 h
          refine lv_iinc (v := (x2 + 1)) (lv' := [(2, .int (x2 + 1)), (0, .ref h0), (1, .int x1)]) hx hb dX2_wearAll_34 hl (k := 2) rfl (by first | rfl | decide) (by decide) rfl (fun ls hl => ?_)
          refine lv_goto (tgt := 2) hx hb dX2_wearAll_37 (by decide) ?_
          exact ih _ _ _ h  _ _ _ hP hD hS (lv_sub hl [1, 2, 0] rfl)
        · replace h := fx_ite_f c15 h
          refine lv_aload_n hx hb dX2_wearAll_18 rfl (lv_at hl 0 rfl) ?_
          refine lv_iload_n hx hb dX2_wearAll_19 rfl (lv_at hl 2 rfl) ?_
          refine lv_iload_n hx hb dX2_wearAll_20 rfl (lv_at hl 1 rfl) ?_
          refine lv_aload_n hx hb dX2_wearAll_21 rfl (lv_at hl 0 rfl) ?_
          refine lv_iload_n hx hb dX2_wearAll_22 rfl (lv_at hl 2 rfl) ?_
          refine lv_aload_n hx hb dX2_wearAll_23 rfl (lv_at hl 0 rfl) ?_
          refine va_get (D := D) (ci := 2) (v := .int (sDa v)) (C := RX2) (T := TX2) (N := 10) hx hb hts i2 hown hK hP 0 rfl rfl 9 (by decide) f40 (fun _ h9 => h9) rfl dX2_wearAll_24 ?_
          obtain ⟨r27, q27, h⟩ := bnd1_inv h
          refine kVI (n := 2) (As := [.int x2, .int (sDa v)]) (rest := [.int x1, .int x2, .ref h0]) CF hl hK hP hD hS hA (c_X2_moreWearOf l D cI h0 h1 h2 h3 h4 h5 h6 h7 v x2 (sDa v) r27 q27) gX2_wearAll_X2_moreWearOf rfl dX2_wearAll_27 (by decide +kernel) ⟨⟨rfl, rfl⟩, ⟨Nat.le_of_ble_eq_true rfl, Nat.le_of_ble_eq_true rfl⟩, Nat.zero_le _, Nat.zero_le _⟩ (JN.whole rfl) 0 rfl ⟨rfl, rfl⟩ rfl rfl (Nat.le_of_ble_eq_true rfl) (fun H locs hP hD hS => ?_)
          replace hP : va_P D vwCl (cS h0 h1 h2 h3 h4 h5 h6 h7 cI v) H := hP
          replace hD : va_D A (cS h0 h1 h2 h3 h4 h5 h6 h7 cI v) := hD
          refine lv_imul hx hb dX2_wearAll_30 ?_
          obtain ⟨u31_v, q31, h⟩ := bnd1_inv h
          refine kVV (n := 2) (As := [.int x2, .int (x1 * r27)]) (rest := []) CF hl hK hP hD hS hA (c_X2_wearMore l D cI h0 h1 h2 h3 h4 h5 h6 h7 v x2 (x1 * r27) u31_v q31) gX2_wearAll_X2_wearMore rfl dX2_wearAll_31 (by decide +kernel) ⟨⟨rfl, rfl⟩, ⟨Nat.le_of_ble_eq_true rfl, Nat.le_of_ble_eq_true rfl⟩, Nat.zero_le _, Nat.zero_le _⟩ (JN.whole (w1 := (cS h0 h1 h2 h3 h4 h5 h6 h7 cI u31_v)) rfl) 0 rfl ⟨rfl, rfl⟩ rfl rfl (Nat.le_of_ble_eq_true rfl) (fun H locs hP hD hS => ?_)
          replace hP : va_P D vwCl (cS h0 h1 h2 h3 h4 h5 h6 h7 cI u31_v) H := hP
          replace hD : va_D A (cS h0 h1 h2 h3 h4 h5 h6 h7 cI u31_v) := hD
          refine lv_iinc (v := (x2 + 1)) (lv' := [(2, .int (x2 + 1)), (0, .ref h0), (1, .int x1)]) hx hb dX2_wearAll_34 hl (k := 2) rfl (by first | rfl | decide) (by decide) rfl (fun ls hl => ?_)
          refine lv_goto (tgt := 2) hx hb dX2_wearAll_37 (by decide) ?_
          exact ih _ _ _ h  _ _ _ hP hD hS (lv_sub hl [1, 2, 0] rfl)
  unfold M_X2_wearAll at h
  refine lv_iconst (v := 0) hx hb dX2_wearAll_0 (by decide) ?_
  refine lv_istore_n (lv' := [(2, .int (0 : Int32)), (0, .ref h0), (1, .int p1)]) hx hb dX2_wearAll_1 rfl hl (by decide) rfl (fun ls hl => ?_)
  exact L2 FU _ _ _ h  _ _ _ hP hD hS (lv_sub hl [1, 2, 0] rfl)
/-! X2_canBeMended -/
set_option maxHeartbeats 4000000 in
set_option maxRecDepth 100000 in
theorem c_X2_canBeMended (l : Launch) (D : va_G) (cI : ClassId) (h0 h1 h2 h3 h4 h5 h6 h7 : Nat) (v : SV)  (res : Int32) (h : M_X2_canBeMended v = some res) : mI l yX2_canBeMended wsX2_canBeMended { frames := 0, cells := 0, slots := 0, locals := 0 } D cI [.ref h0] (cS h0 h1 h2 h3 h4 h5 h6 h7 cI v) (cS h0 h1 h2 h3 h4 h5 h6 h7 cI v) res := by
  intro sz
  refine mStart (cc := cX2_canBeMended) (maxL := 2) (ret := (some .boolean)) (own := RX2) (by decide) rfl rfl (Nat.le_of_ble_eq_true rfl) (lv := [(0, .ref h0)]) rfl ?_
  intro p e s m args below meth c A ls Q H locs CF hr hlocks hK hP hD hS hA hAe hl hQ
  obtain ⟨hx, hb, hml, hown, hts⟩ := id CF
  have f30 := hts (.fieldLink RX2 30 "MendAnothersBreaking$State" "breakers" "[I") (List.mem_of_getElem? (i := 2) rfl)
  have f37 := hts (.fieldLink RX2 37 "MendAnothersBreaking$State" "things" "I") (List.mem_of_getElem? (i := 1) rfl)
  have i2 : ∀ w ∈ wsX20, w ∈ wsX2_canBeMended := fun w h => List.mem_cons_of_mem _ (List.mem_append_right _ h)
  have L2 : ∀ (n : Nat)  (x1 : Int32), fuel (fun _ => none) (B_X2_canBeMended_2 v) n x1 = some res → 
      ∀ (H : Heap) (locs : List Loc) (ls : Array Slot), va_P D vwCl (cS h0 h1 h2 h3 h4 h5 h6 h7 cI v) H → va_D A (cS h0 h1 h2 h3 h4 h5 h6 h7 cI v) → va_S A s.heap H locs → lv_has ls 2 [(0, .ref h0), (1, .int x1)] → W p l e { frames := 0, cells := 0, slots := 0, locals := 0 } s m args below meth c H locs 0 0 Q (F0 m 2 ls []) := by
    intro n
    induction n with
    | zero =>
      intro x1 h
      exact nomatch (show (none : Option (Int32)) = some res from h)
    | succ n ih =>
      intro x1 h  H locs ls hP hD hS hl
      replace h : B_X2_canBeMended_2 v (fuel (fun _ => none) (B_X2_canBeMended_2 v) n) x1 = some res := h
      unfold B_X2_canBeMended_2 at h
      refine lv_iload_n hx hb dX2_canBeMended_2 rfl (lv_at hl 1 rfl) ?_
      refine lv_aload_n hx hb dX2_canBeMended_3 rfl (lv_at hl 0 rfl) ?_
      refine va_get (D := D) (ci := 2) (v := .int (sTh v)) (C := RX2) (T := TX2) (N := 10) hx hb hts i2 hown hK hP 0 rfl rfl 8 (by decide) f37 (fun _ h9 => h9) rfl dX2_canBeMended_4 ?_
      refine lv_icmp_ge (tgt := 27) hx hb dX2_canBeMended_7 (by decide) (fun c7 => ?_) (fun c7 => ?_)
      · replace h := fx_ite_t c7 h
        refine lv_iconst (v := 0) hx hb dX2_canBeMended_27 (by decide) ?_
        obtain rfl := ret1 h
        exact rI hQ hx hb hr hlocks hAe hP hS rfl rfl dX2_canBeMended_28
      · replace h := fx_ite_f c7 h
        refine lv_aload_n hx hb dX2_canBeMended_10 rfl (lv_at hl 0 rfl) ?_
        refine va_get (D := D) (ci := 2) (v := .ref h7) (C := RX2) (T := TX2) (N := 10) hx hb hts i2 hown hK hP 0 rfl rfl 6 (by decide) f30 (fun _ h9 => h9) rfl dX2_canBeMended_11 ?_
        refine lv_iload_n hx hb dX2_canBeMended_14 rfl (lv_at hl 1 rfl) ?_
        obtain ⟨g15, h⟩ := chk_inv h
        refine va_iald (n := 9) (f := (sBr v)) hx hb hK hP 7 0 rfl rfl g15 dX2_canBeMended_15 ?_
        refine lv_if_lt (tgt := 21) hx hb dX2_canBeMended_16 (by decide) (fun c16 => ?_) (fun c16 => ?_)
        · replace h := fx_ite_t c16 h
          refine lv_iinc (v := (x1 + 1)) (lv' := [(1, .int (x1 + 1)), (0, .ref h0)]) hx hb dX2_canBeMended_21 hl (k := 1) rfl (by first | rfl | decide) (by decide) rfl (fun ls hl => ?_)
          refine lv_goto (tgt := 2) hx hb dX2_canBeMended_24 (by decide) ?_
          exact ih _ h  _ _ _ hP hD hS (lv_sub hl [1, 0] rfl)
        · replace h := fx_ite_f c16 h
          refine lv_iconst (v := 1) hx hb dX2_canBeMended_19 (by decide) ?_
          obtain rfl := ret1 h
          exact rI hQ hx hb hr hlocks hAe hP hS rfl rfl dX2_canBeMended_20
  unfold M_X2_canBeMended at h
  refine lv_iconst (v := 0) hx hb dX2_canBeMended_0 (by decide) ?_
  refine lv_istore_n (lv' := [(1, .int (0 : Int32)), (0, .ref h0)]) hx hb dX2_canBeMended_1 rfl hl (by decide) rfl (fun ls hl => ?_)
  exact L2 FU _ h  _ _ _ hP hD hS (lv_sub hl [1, 0] rfl)
/-! X2_hardOf -/
set_option maxHeartbeats 4000000 in
set_option maxRecDepth 100000 in
theorem c_X2_hardOf (l : Launch) (D : va_G) (cI : ClassId) (h0 h1 h2 h3 h4 h5 h6 h7 : Nat) (v : SV) (p1 : Int32) (res : Int32) (h : M_X2_hardOf v p1 = some res) : mI l yX2_hardOf wsX2_hardOf { frames := 1, cells := 0, slots := 0, locals := 21 } D cI [.ref h0, .int p1] (cS h0 h1 h2 h3 h4 h5 h6 h7 cI v) (cS h0 h1 h2 h3 h4 h5 h6 h7 cI v) res := by
  intro sz
  refine mStart (cc := cX2_hardOf) (maxL := 5) (ret := (some .int)) (own := RX2) (by decide) rfl rfl (Nat.le_of_ble_eq_true rfl) (lv := [(0, .ref h0), (1, .int p1)]) rfl ?_
  intro p e s m args below meth c A ls Q H locs CF hr hlocks hK hP hD hS hA hAe hl hQ
  obtain ⟨hx, hb, hml, hown, hts⟩ := id CF
  have f9 := hts (.fieldLink RX2 9 "MendAnothersBreaking$State" "skills" "[I") (List.mem_of_getElem? (i := 8) rfl)
  have f18 := hts (.fieldLink RX2 18 "MendAnothersBreaking$State" "kinds" "[I") (List.mem_of_getElem? (i := 7) rfl)
  have f21 := hts (.fieldLink RX2 21 "MendAnothersBreaking$State" "figures" "[I") (List.mem_of_getElem? (i := 1) rfl)
  have f24 := hts (.fieldLink RX2 24 "MendAnothersBreaking$State" "owners" "[I") (List.mem_of_getElem? (i := 6) rfl)
  have i2 : ∀ w ∈ wsX20, w ∈ wsX2_hardOf := fun w h => List.mem_cons_of_mem _ (List.mem_append_right _ h)
  have mmin_l := hts (.methodLink RX2 53 Lib.Math.min.name) (List.mem_of_getElem? (i := 2) rfl)
  have mmin_s := hts (.static Lib.Math.min.name) (List.mem_of_getElem? (i := 3) rfl)
  have m_i := hts (.initialized "java/lang/Math") (List.mem_of_getElem? (i := 4) rfl)
  have mmin_c := hts (.code Lib.Math.min.name Lib.Math.min.code 2 (some .int)) (List.mem_of_getElem? (i := 5) rfl)
  unfold M_X2_hardOf at h
  refine lv_aload_n hx hb dX2_hardOf_0 rfl (lv_at hl 0 rfl) ?_
  refine va_get (D := D) (ci := 2) (v := .ref h4) (C := RX2) (T := TX2) (N := 10) hx hb hts i2 hown hK hP 0 rfl rfl 3 (by decide) f21 (fun _ h9 => h9) rfl dX2_hardOf_1 ?_
  refine lv_iload_n hx hb dX2_hardOf_4 rfl (lv_at hl 1 rfl) ?_
  obtain ⟨g5, h⟩ := chk_inv h
  refine va_iald (n := 9) (f := (sFi v)) hx hb hK hP 4 0 rfl rfl g5 dX2_hardOf_5 ?_
  refine lv_istore_n (lv' := [(2, .int ((sFi v) (Int32.toNatClampNeg p1))), (0, .ref h0), (1, .int p1)]) hx hb dX2_hardOf_6 rfl hl (by decide) rfl (fun ls hl => ?_)
  refine lv_bipush (v := 9) hx hb dX2_hardOf_7 (by decide) ?_
  refine lv_iload_n hx hb dX2_hardOf_9 rfl (lv_at hl 0 rfl) ?_
  refine lv_iconst (v := 1) hx hb dX2_hardOf_10 (by decide) ?_
  refine lv_iadd hx hb dX2_hardOf_11 ?_
  refine va_mmin hx hb (hml.trans hl.1.symm) hown mmin_l mmin_s m_i mmin_c (Nat.le_of_ble_eq_true rfl) (Nat.le_of_ble_eq_true rfl) (Nat.zero_le _) (Nat.zero_le _) dX2_hardOf_12 ?_
  refine lv_istore_n (lv' := [(3, .int (if (((sFi v) (Int32.toNatClampNeg p1)) + (1 : Int32)) < (9 : Int32) then (((sFi v) (Int32.toNatClampNeg p1)) + (1 : Int32)) else (9 : Int32))), (2, .int ((sFi v) (Int32.toNatClampNeg p1))), (0, .ref h0), (1, .int p1)]) hx hb dX2_hardOf_15 rfl hl (by decide) rfl (fun ls hl => ?_)
  refine lv_aload_n hx hb dX2_hardOf_16 rfl (lv_at hl 2 rfl) ?_
  refine va_get (D := D) (ci := 2) (v := .ref h5) (C := RX2) (T := TX2) (N := 10) hx hb hts i2 hown hK hP 0 rfl rfl 4 (by decide) f24 (fun _ h9 => h9) rfl dX2_hardOf_17 ?_
  refine lv_iload_n hx hb dX2_hardOf_20 rfl (lv_at hl 3 rfl) ?_
  obtain ⟨g21, h⟩ := chk_inv h
  refine va_iald (n := 9) (f := (sOw v)) hx hb hK hP 5 0 rfl rfl g21 dX2_hardOf_21 ?_
  refine lv_istore (lv' := [(4, .int ((sOw v) (Int32.toNatClampNeg p1))), (3, .int (if (((sFi v) (Int32.toNatClampNeg p1)) + (1 : Int32)) < (9 : Int32) then (((sFi v) (Int32.toNatClampNeg p1)) + (1 : Int32)) else (9 : Int32))), (2, .int ((sFi v) (Int32.toNatClampNeg p1))), (0, .ref h0), (1, .int p1)]) hx hb dX2_hardOf_22 hl (by decide) rfl (fun ls hl => ?_)
  refine lv_aload_n hx hb dX2_hardOf_24 rfl (lv_at hl 3 rfl) ?_
  refine va_get (D := D) (ci := 2) (v := .ref h3) (C := RX2) (T := TX2) (N := 10) hx hb hts i2 hown hK hP 0 rfl rfl 2 (by decide) f18 (fun _ h9 => h9) rfl dX2_hardOf_25 ?_
  refine lv_iload_n hx hb dX2_hardOf_28 rfl (lv_at hl 4 rfl) ?_
  obtain ⟨g29, h⟩ := chk_inv h
  refine va_iald (n := 9) (f := (sKi v)) hx hb hK hP 3 0 rfl rfl g29 dX2_hardOf_29 ?_
  by_cases s30_1 : ((sKi v) (Int32.toNatClampNeg p1)) = 1
  · replace h := fx_ite_t s30_1 h
    refine lv_tableIn (tgt := 64) hx hb dX2_hardOf_30 (by rw [s30_1]; decide) (by rw [s30_1]; decide) (off := 34) (by rw [s30_1]; rfl) (by decide) ?_
    refine lv_iload_n hx hb dX2_hardOf_64 rfl (lv_at hl 2 rfl) ?_
    refine lv_iconst (v := 2) hx hb dX2_hardOf_65 (by decide) ?_
    refine lv_idiv hx hb dX2_hardOf_66 (by decide) ?_
    obtain rfl := ret1 h
    exact rI hQ hx hb hr hlocks hAe hP hS rfl rfl dX2_hardOf_67
  replace h := fx_ite_f s30_1 h
  by_cases s30_3 : ((sKi v) (Int32.toNatClampNeg p1)) = 3
  · replace h := fx_ite_t s30_3 h
    refine lv_tableIn (tgt := 68) hx hb dX2_hardOf_30 (by rw [s30_3]; decide) (by rw [s30_3]; decide) (off := 38) (by rw [s30_3]; rfl) (by decide) ?_
    refine lv_iload_n hx hb dX2_hardOf_68 rfl (lv_at hl 1 rfl) ?_
    obtain rfl := ret1 h
    exact rI hQ hx hb hr hlocks hAe hP hS rfl rfl dX2_hardOf_69
  replace h := fx_ite_f s30_3 h
  by_cases s30_4 : ((sKi v) (Int32.toNatClampNeg p1)) = 4
  · replace h := fx_ite_t s30_4 h
    refine lv_tableIn (tgt := 70) hx hb dX2_hardOf_30 (by rw [s30_4]; decide) (by rw [s30_4]; decide) (off := 40) (by rw [s30_4]; rfl) (by decide) ?_
    refine lv_bipush (v := 9) hx hb dX2_hardOf_70 (by decide) ?_
    refine lv_iload_n hx hb dX2_hardOf_72 rfl (lv_at hl 2 rfl) ?_
    refine lv_iconst (v := 2) hx hb dX2_hardOf_73 (by decide) ?_
    refine lv_iadd hx hb dX2_hardOf_74 ?_
    refine va_mmin hx hb (hml.trans hl.1.symm) hown mmin_l mmin_s m_i mmin_c (Nat.le_of_ble_eq_true rfl) (Nat.le_of_ble_eq_true rfl) (Nat.zero_le _) (Nat.zero_le _) dX2_hardOf_75 ?_
    obtain rfl := ret1 h
    exact rI hQ hx hb hr hlocks hAe hP hS rfl rfl dX2_hardOf_78
  replace h := fx_ite_f s30_4 h
  by_cases s30_5 : ((sKi v) (Int32.toNatClampNeg p1)) = 5
  · replace h := fx_ite_t s30_5 h
    refine lv_tableIn (tgt := 79) hx hb dX2_hardOf_30 (by rw [s30_5]; decide) (by rw [s30_5]; decide) (off := 49) (by rw [s30_5]; rfl) (by decide) ?_
    refine lv_aload_n hx hb dX2_hardOf_79 rfl (lv_at hl 3 rfl) ?_
    refine lv_iload hx hb dX2_hardOf_80 (lv_at hl 0 rfl) ?_
    obtain ⟨r82, q82, h⟩ := bnd1_inv h
    refine kVI (n := 1) (As := [.int ((sOw v) (Int32.toNatClampNeg p1))]) (rest := []) CF hl hK hP hD hS hA (c_X2_isPerson l D cI h0 h1 h2 h3 h4 h5 h6 h7 v ((sOw v) (Int32.toNatClampNeg p1)) r82 q82) gX2_hardOf_X2_isPerson rfl dX2_hardOf_82 (by decide +kernel) ⟨⟨rfl, rfl⟩, ⟨Nat.le_of_ble_eq_true rfl, Nat.le_of_ble_eq_true rfl⟩, Nat.zero_le _, Nat.zero_le _⟩ (JN.whole rfl) 0 rfl ⟨rfl, rfl⟩ rfl rfl (Nat.le_of_ble_eq_true rfl) (fun H locs hP hD hS => ?_)
    replace hP : va_P D vwCl (cS h0 h1 h2 h3 h4 h5 h6 h7 cI v) H := hP
    replace hD : va_D A (cS h0 h1 h2 h3 h4 h5 h6 h7 cI v) := hD
    refine lv_if_eq (tgt := 103) hx hb dX2_hardOf_85 (by decide) (fun c85 => ?_) (fun c85 => ?_)
    · replace h := fx_ite_t c85 h
      refine lv_iload_n hx hb dX2_hardOf_103 rfl (lv_at hl 1 rfl) ?_
      obtain rfl := ret1 h
      exact rI hQ hx hb hr hlocks hAe hP hS rfl rfl dX2_hardOf_104
    · replace h := fx_ite_f c85 h
      refine lv_aload_n hx hb dX2_hardOf_88 rfl (lv_at hl 3 rfl) ?_
      refine va_get (D := D) (ci := 2) (v := .ref h1) (C := RX2) (T := TX2) (N := 10) hx hb hts i2 hown hK hP 0 rfl rfl 0 (by decide) f9 (fun _ h9 => h9) rfl dX2_hardOf_89 ?_
      refine lv_iload hx hb dX2_hardOf_92 (lv_at hl 0 rfl) ?_
      obtain ⟨g94, h⟩ := chk_inv h
      refine va_iald (n := 6) (f := (sSk v)) hx hb hK hP 1 0 rfl rfl g94 dX2_hardOf_94 ?_
      refine lv_iconst (v := 5) hx hb dX2_hardOf_95 (by decide) ?_
      refine lv_icmp_lt (tgt := 103) hx hb dX2_hardOf_96 (by decide) (fun c96 => ?_) (fun c96 => ?_)
      · replace h := fx_ite_t c96 h
        refine lv_iload_n hx hb dX2_hardOf_103 rfl (lv_at hl 1 rfl) ?_
        obtain rfl := ret1 h
        exact rI hQ hx hb hr hlocks hAe hP hS rfl rfl dX2_hardOf_104
      · replace h := fx_ite_f c96 h
        refine lv_iconst (v := 0) hx hb dX2_hardOf_99 (by decide) ?_
        refine lv_goto (tgt := 104) hx hb dX2_hardOf_100 (by decide) ?_
        obtain rfl := ret1 h
        exact rI hQ hx hb hr hlocks hAe hP hS rfl rfl dX2_hardOf_104
  replace h := fx_ite_f s30_5 h
  have hdf30 : ∀ (kk : W p l e { frames := 1, cells := 0, slots := 0, locals := 21 } s m args below meth c H locs 0 0 Q (F0 m 105 ls [])), W p l e { frames := 1, cells := 0, slots := 0, locals := 21 } s m args below meth c H locs 0 0 Q (F0 m 30 ls [.int ((sKi v) (Int32.toNatClampNeg p1))]) := by
    intro kk
    by_cases hr30 : Int32.toInt ((sKi v) (Int32.toNatClampNeg p1)) < 1 ∨ 5 < Int32.toInt ((sKi v) (Int32.toNatClampNeg p1))
    · exact lv_tableOut (tgt := 105) hx hb dX2_hardOf_30 hr30 (by decide) kk
    · refine lv_tableIn (tgt := 105) hx hb dX2_hardOf_30 (by omega) (by omega) (off := 75) ?_ (by decide) kk
      have a_s30_1 : Int32.toInt ((sKi v) (Int32.toNatClampNeg p1)) ≠ 1 := fx_toInt_ne s30_1; have a_s30_3 : Int32.toInt ((sKi v) (Int32.toNatClampNeg p1)) ≠ 3 := fx_toInt_ne s30_3; have a_s30_4 : Int32.toInt ((sKi v) (Int32.toNatClampNeg p1)) ≠ 4 := fx_toInt_ne s30_4; have a_s30_5 : Int32.toInt ((sKi v) (Int32.toNatClampNeg p1)) ≠ 5 := fx_toInt_ne s30_5
      have e9 : (Int32.toInt ((sKi v) (Int32.toNatClampNeg p1)) - 1).toNat = 1 := by omega
      rcases e9 with e9 <;> rw [e9] <;> rfl
  refine hdf30 ?_
  refine lv_iload_n hx hb dX2_hardOf_105 rfl (lv_at hl 2 rfl) ?_
  obtain rfl := ret1 h
  exact rI hQ hx hb hr hlocks hAe hP hS rfl rfl dX2_hardOf_106
