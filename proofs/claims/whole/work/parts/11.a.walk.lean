/-! X0_hasRoom -/
set_option maxHeartbeats 4000000 in
set_option maxRecDepth 100000 in
theorem c_X0_hasRoom (l : Launch) (D : va_G) (cI : ClassId) (h0 h1 : Nat) (sg : (Nat → Int32)) (lz : Int32)  (res : Int32) (h : M_X0_hasRoom lz = some res) : mI l yX0_hasRoom wsX0_hasRoom { frames := 0, cells := 0, slots := 0, locals := 0 } D cI [.ref h0] (cL h0 h1 cI sg lz) (cL h0 h1 cI sg lz) res := by
  intro sz
  refine mStart (cc := cX0_hasRoom) (maxL := 1) (ret := (some .boolean)) (own := RX0) (by decide) rfl rfl (Nat.le_of_ble_eq_true rfl) (lv := [(0, .ref h0)]) rfl ?_
  intro p e s m args below meth c A ls Q H locs CF hr hlocks hK hP hD hS hA hAe hl hQ
  obtain ⟨hx, hb, hml, hown, hts⟩ := id CF
  have f15 := hts (.fieldLink RX0 15 "MendAnothersBreaking$Letters" "size" "I") (List.mem_of_getElem? (i := 1) rfl)
  have i0 : ∀ w ∈ wsX00, w ∈ wsX0_hasRoom := fun w h => List.mem_cons_of_mem _ (List.mem_append_right _ h)
  unfold M_X0_hasRoom at h
  refine lv_aload_n hx hb dX0_hasRoom_0 rfl (lv_at hl 0 rfl) ?_
  refine va_get (D := D) (ci := 0) (v := .int lz) (C := RX0) (T := TX0) (N := 2) hx hb hts i0 hown hK hP 0 rfl rfl 1 (by decide) f15 (fun _ h9 => h9) rfl dX0_hasRoom_1 ?_
  refine lv_bipush (v := 96) hx hb dX0_hasRoom_4 (by decide) ?_
  refine lv_icmp_ge (tgt := 13) hx hb dX0_hasRoom_6 (by decide) (fun c6 => ?_) (fun c6 => ?_)
  · replace h := fx_ite_t c6 h
    refine lv_iconst (v := 0) hx hb dX0_hasRoom_13 (by decide) ?_
    obtain rfl := ret1 h
    exact rI hQ hx hb hr hlocks hAe hP hS rfl rfl dX0_hasRoom_14
  · replace h := fx_ite_f c6 h
    refine lv_iconst (v := 1) hx hb dX0_hasRoom_9 (by decide) ?_
    refine lv_goto (tgt := 14) hx hb dX0_hasRoom_10 (by decide) ?_
    obtain rfl := ret1 h
    exact rI hQ hx hb hr hlocks hAe hP hS rfl rfl dX0_hasRoom_14
/-! X0_take -/
set_option maxHeartbeats 4000000 in
set_option maxRecDepth 100000 in
theorem c_X0_take (l : Launch) (D : va_G) (cI : ClassId) (h0 h1 : Nat) (sg : (Nat → Int32)) (lz : Int32) (p1 : Int32) (res : Int32) (u_sg : (Nat → Int32)) (u_lz : Int32) (h : M_X0_take sg lz p1 = some (res, u_sg, u_lz)) : mI l yX0_take wsX0_take { frames := 1, cells := 0, slots := 0, locals := 20 } D cI [.ref h0, .int p1] (cL h0 h1 cI sg lz) (cL h0 h1 cI u_sg u_lz) res := by
  intro sz
  refine mStart (cc := cX0_take) (maxL := 2) (ret := (some .int)) (own := RX0) (by decide) rfl rfl (Nat.le_of_ble_eq_true rfl) (lv := [(0, .ref h0), (1, .int p1)]) rfl ?_
  intro p e s m args below meth c A ls Q H locs CF hr hlocks hK hP hD hS hA hAe hl hQ
  obtain ⟨hx, hb, hml, hown, hts⟩ := id CF
  have f9 := hts (.fieldLink RX0 9 "MendAnothersBreaking$Letters" "signs" "[I") (List.mem_of_getElem? (i := 1) rfl)
  have f15 := hts (.fieldLink RX0 15 "MendAnothersBreaking$Letters" "size" "I") (List.mem_of_getElem? (i := 2) rfl)
  have i0 : ∀ w ∈ wsX00, w ∈ wsX0_take := fun w h => List.mem_cons_of_mem _ (List.mem_append_right _ h)
  unfold M_X0_take at h
  refine lv_aload_n hx hb dX0_take_0 rfl (lv_at hl 0 rfl) ?_
  obtain ⟨r1, q1, h⟩ := bnd1_inv h
  refine kVI (n := 0) (As := []) (rest := []) CF hl hK hP hD hS hA (c_X0_hasRoom l D cI h0 h1 sg lz  r1 q1) gX0_take_X0_hasRoom rfl dX0_take_1 (by decide +kernel) ⟨⟨rfl, rfl⟩, ⟨Nat.le_of_ble_eq_true rfl, Nat.le_of_ble_eq_true rfl⟩, Nat.zero_le _, Nat.zero_le _⟩ (JN.whole rfl) 0 rfl ⟨rfl, rfl⟩ rfl rfl (Nat.le_of_ble_eq_true rfl) (fun H locs hP hD hS => ?_)
  replace hP : va_P D vwCl (cL h0 h1 cI sg lz) H := hP
  replace hD : va_D A (cL h0 h1 cI sg lz) := hD
  refine lv_if_eq (tgt := 27) hx hb dX0_take_4 (by decide) (fun c4 => ?_) (fun c4 => ?_)
  · replace h := fx_ite_t c4 h
    refine lv_aload_n hx hb dX0_take_27 rfl (lv_at hl 0 rfl) ?_
    refine va_get (D := D) (ci := 0) (v := .int lz) (C := RX0) (T := TX0) (N := 2) hx hb hts i0 hown hK hP 0 rfl rfl 1 (by decide) f15 (fun _ h9 => h9) rfl dX0_take_28 ?_
    obtain ⟨rfl, rfl, rfl⟩ := ret3 h
    exact rI hQ hx hb hr hlocks hAe hP hS rfl rfl dX0_take_31
  · replace h := fx_ite_f c4 h
    refine lv_aload_n hx hb dX0_take_7 rfl (lv_at hl 0 rfl) ?_
    refine va_get (D := D) (ci := 0) (v := .ref h1) (C := RX0) (T := TX0) (N := 2) hx hb hts i0 hown hK hP 0 rfl rfl 0 (by decide) f9 (fun _ h9 => h9) rfl dX0_take_8 ?_
    refine lv_aload_n hx hb dX0_take_11 rfl (lv_at hl 0 rfl) ?_
    refine va_get (D := D) (ci := 0) (v := .int lz) (C := RX0) (T := TX0) (N := 2) hx hb hts i0 hown hK hP 0 rfl rfl 1 (by decide) f15 (fun _ h9 => h9) rfl dX0_take_12 ?_
    refine lv_iload_n hx hb dX0_take_15 rfl (lv_at hl 1 rfl) ?_
    obtain ⟨g16, h⟩ := chk_inv h
    refine va_iast (n := 96) (f := sg) hx hb hK hP hD hS 1 0 rfl rfl g16 dX0_take_16 (fun H locs hP hD hS => ?_)
    replace hP : va_P D vwCl (cL h0 h1 cI (upd sg (Int32.toNatClampNeg lz) p1) lz) H := hP
    replace hD : va_D A (cL h0 h1 cI (upd sg (Int32.toNatClampNeg lz) p1) lz) := hD
    refine lv_aload_n hx hb dX0_take_17 rfl (lv_at hl 0 rfl) ?_
    refine lv_dup hx hb dX0_take_18 rfl ?_
    refine va_get (D := D) (ci := 0) (v := .int lz) (C := RX0) (T := TX0) (N := 2) hx hb hts i0 hown hK hP 0 rfl rfl 1 (by decide) f15 (fun _ h9 => h9) rfl dX0_take_19 ?_
    refine lv_iconst (v := 1) hx hb dX0_take_22 (by decide) ?_
    refine lv_iadd hx hb dX0_take_23 ?_
    refine va_put (D := D) (ci := 0) (v := .int (lz + (1 : Int32))) (ty := .int) (C := RX0) (T := TX0) (N := 2) hx hb hts i0 tyX0 tyX0_ok nmX0 hown hK hP hD hS 0 rfl rfl 1 (by decide) f15 (fun _ h9 => h9) rfl (by decide +kernel) rfl rfl (Nat.le_of_ble_eq_true rfl) dX0_take_24 (fun H locs hP hD hS => ?_)
    replace hP : va_P D vwCl (cL h0 h1 cI (upd sg (Int32.toNatClampNeg lz) p1) (lz + (1 : Int32))) H := hP
    replace hD : va_D A (cL h0 h1 cI (upd sg (Int32.toNatClampNeg lz) p1) (lz + (1 : Int32))) := hD
    refine lv_aload_n hx hb dX0_take_27 rfl (lv_at hl 0 rfl) ?_
    refine va_get (D := D) (ci := 0) (v := .int (lz + (1 : Int32))) (C := RX0) (T := TX0) (N := 2) hx hb hts i0 hown hK hP 0 rfl rfl 1 (by decide) f15 (fun _ h9 => h9) rfl dX0_take_28 ?_
    obtain ⟨rfl, rfl, rfl⟩ := ret3 h
    exact rI hQ hx hb hr hlocks hAe hP hS rfl rfl dX0_take_31
/-! X0_forget -/
set_option maxHeartbeats 4000000 in
set_option maxRecDepth 100000 in
theorem c_X0_forget (l : Launch) (D : va_G) (cI : ClassId) (h0 h1 : Nat) (sg : (Nat → Int32)) (lz : Int32)  (u_lz : Int32) (h : M_X0_forget lz = some u_lz) : mV l yX0_forget wsX0_forget { frames := 0, cells := 0, slots := 0, locals := 0 } D cI [.ref h0] (cL h0 h1 cI sg lz) (cL h0 h1 cI sg u_lz) := by
  intro sz
  refine mStart (cc := cX0_forget) (maxL := 1) (ret := none) (own := RX0) (by decide) rfl rfl (Nat.le_of_ble_eq_true rfl) (lv := [(0, .ref h0)]) rfl ?_
  intro p e s m args below meth c A ls Q H locs CF hr hlocks hK hP hD hS hA hAe hl hQ
  obtain ⟨hx, hb, hml, hown, hts⟩ := id CF
  have f15 := hts (.fieldLink RX0 15 "MendAnothersBreaking$Letters" "size" "I") (List.mem_of_getElem? (i := 1) rfl)
  have i0 : ∀ w ∈ wsX00, w ∈ wsX0_forget := fun w h => List.mem_cons_of_mem _ (List.mem_append_right _ h)
  unfold M_X0_forget at h
  refine lv_aload_n hx hb dX0_forget_0 rfl (lv_at hl 0 rfl) ?_
  refine lv_iconst (v := 0) hx hb dX0_forget_1 (by decide) ?_
  refine va_put (D := D) (ci := 0) (v := .int (0 : Int32)) (ty := .int) (C := RX0) (T := TX0) (N := 2) hx hb hts i0 tyX0 tyX0_ok nmX0 hown hK hP hD hS 0 rfl rfl 1 (by decide) f15 (fun _ h9 => h9) rfl (by decide +kernel) rfl rfl (Nat.le_of_ble_eq_true rfl) dX0_forget_2 (fun H locs hP hD hS => ?_)
  replace hP : va_P D vwCl (cL h0 h1 cI sg (0 : Int32)) H := hP
  replace hD : va_D A (cL h0 h1 cI sg (0 : Int32)) := hD
  obtain rfl := ret1 h
  exact rV hQ hx hb hr hlocks hAe hP hS dX0_forget_5
/-! X0_sign -/
set_option maxHeartbeats 4000000 in
set_option maxRecDepth 100000 in
theorem c_X0_sign (l : Launch) (D : va_G) (cI : ClassId) (h0 h1 : Nat) (sg : (Nat → Int32)) (lz : Int32) (p1 : Int32) (res : Int32) (h : M_X0_sign sg lz p1 = some res) : mI l yX0_sign wsX0_sign { frames := 0, cells := 0, slots := 0, locals := 0 } D cI [.ref h0, .int p1] (cL h0 h1 cI sg lz) (cL h0 h1 cI sg lz) res := by
  intro sz
  refine mStart (cc := cX0_sign) (maxL := 2) (ret := (some .int)) (own := RX0) (by decide) rfl rfl (Nat.le_of_ble_eq_true rfl) (lv := [(0, .ref h0), (1, .int p1)]) rfl ?_
  intro p e s m args below meth c A ls Q H locs CF hr hlocks hK hP hD hS hA hAe hl hQ
  obtain ⟨hx, hb, hml, hown, hts⟩ := id CF
  have f9 := hts (.fieldLink RX0 9 "MendAnothersBreaking$Letters" "signs" "[I") (List.mem_of_getElem? (i := 2) rfl)
  have f15 := hts (.fieldLink RX0 15 "MendAnothersBreaking$Letters" "size" "I") (List.mem_of_getElem? (i := 1) rfl)
  have i0 : ∀ w ∈ wsX00, w ∈ wsX0_sign := fun w h => List.mem_cons_of_mem _ (List.mem_append_right _ h)
  unfold M_X0_sign at h
  refine lv_iload_n hx hb dX0_sign_0 rfl (lv_at hl 1 rfl) ?_
  refine lv_if_lt (tgt := 21) hx hb dX0_sign_1 (by decide) (fun c1 => ?_) (fun c1 => ?_)
  · replace h := fx_ite_t c1 h
    refine lv_iconst (v := 0) hx hb dX0_sign_21 (by decide) ?_
    obtain rfl := ret1 h
    exact rI hQ hx hb hr hlocks hAe hP hS rfl rfl dX0_sign_22
  · replace h := fx_ite_f c1 h
    refine lv_iload_n hx hb dX0_sign_4 rfl (lv_at hl 1 rfl) ?_
    refine lv_aload_n hx hb dX0_sign_5 rfl (lv_at hl 0 rfl) ?_
    refine va_get (D := D) (ci := 0) (v := .int lz) (C := RX0) (T := TX0) (N := 2) hx hb hts i0 hown hK hP 0 rfl rfl 1 (by decide) f15 (fun _ h9 => h9) rfl dX0_sign_6 ?_
    refine lv_icmp_ge (tgt := 21) hx hb dX0_sign_9 (by decide) (fun c9 => ?_) (fun c9 => ?_)
    · replace h := fx_ite_t c9 h
      refine lv_iconst (v := 0) hx hb dX0_sign_21 (by decide) ?_
      obtain rfl := ret1 h
      exact rI hQ hx hb hr hlocks hAe hP hS rfl rfl dX0_sign_22
    · replace h := fx_ite_f c9 h
      refine lv_aload_n hx hb dX0_sign_12 rfl (lv_at hl 0 rfl) ?_
      refine va_get (D := D) (ci := 0) (v := .ref h1) (C := RX0) (T := TX0) (N := 2) hx hb hts i0 hown hK hP 0 rfl rfl 0 (by decide) f9 (fun _ h9 => h9) rfl dX0_sign_13 ?_
      refine lv_iload_n hx hb dX0_sign_16 rfl (lv_at hl 1 rfl) ?_
      obtain ⟨g17, h⟩ := chk_inv h
      refine va_iald (n := 96) (f := sg) hx hb hK hP 1 0 rfl rfl g17 dX0_sign_17 ?_
      refine lv_goto (tgt := 22) hx hb dX0_sign_18 (by decide) ?_
      obtain rfl := ret1 h
      exact rI hQ hx hb hr hlocks hAe hP hS rfl rfl dX0_sign_22
/-! X0_partsBehind -/
set_option maxHeartbeats 4000000 in
set_option maxRecDepth 100000 in
theorem c_X0_partsBehind (l : Launch) (D : va_G) (cI : ClassId)   (p0 : Int32) (res : Int32) (h : M_X0_partsBehind p0 = some res) : mI l yX0_partsBehind wsX0_partsBehind { frames := 0, cells := 0, slots := 0, locals := 0 } D cI [.int p0] [] [] res := by
  intro sz
  refine mStart (cc := cX0_partsBehind) (maxL := 1) (ret := (some .int)) (own := RX0) (by decide) rfl rfl (Nat.le_of_ble_eq_true rfl) (lv := [(0, .int p0)]) rfl ?_
  intro p e s m args below meth c A ls Q H locs CF hr hlocks hK hP hD hS hA hAe hl hQ
  obtain ⟨hx, hb, hml, hown, hts⟩ := id CF
  unfold M_X0_partsBehind at h
  refine lv_iload_n hx hb dX0_partsBehind_0 rfl (lv_at hl 0 rfl) ?_
  by_cases s1_98 : p0 = 98
  · replace h := fx_ite_t s1_98 h
    refine lv_tableIn (tgt := 106) hx hb dX0_partsBehind_1 (by rw [s1_98]; decide) (by rw [s1_98]; decide) (off := 105) (by rw [s1_98]; rfl) (by decide) ?_
    refine lv_iconst (v := 2) hx hb dX0_partsBehind_106 (by decide) ?_
    obtain rfl := ret1 h
    exact rI hQ hx hb hr hlocks hAe hP hS rfl rfl dX0_partsBehind_107
  replace h := fx_ite_f s1_98 h
  by_cases s1_100 : p0 = 100
  · replace h := fx_ite_t s1_100 h
    refine lv_tableIn (tgt := 106) hx hb dX0_partsBehind_1 (by rw [s1_100]; decide) (by rw [s1_100]; decide) (off := 105) (by rw [s1_100]; rfl) (by decide) ?_
    refine lv_iconst (v := 2) hx hb dX0_partsBehind_106 (by decide) ?_
    obtain rfl := ret1 h
    exact rI hQ hx hb hr hlocks hAe hP hS rfl rfl dX0_partsBehind_107
  replace h := fx_ite_f s1_100 h
  by_cases s1_110 : p0 = 110
  · replace h := fx_ite_t s1_110 h
    refine lv_tableIn (tgt := 104) hx hb dX0_partsBehind_1 (by rw [s1_110]; decide) (by rw [s1_110]; decide) (off := 103) (by rw [s1_110]; rfl) (by decide) ?_
    refine lv_iconst (v := 1) hx hb dX0_partsBehind_104 (by decide) ?_
    obtain rfl := ret1 h
    exact rI hQ hx hb hr hlocks hAe hP hS rfl rfl dX0_partsBehind_105
  replace h := fx_ite_f s1_110 h
  by_cases s1_112 : p0 = 112
  · replace h := fx_ite_t s1_112 h
    refine lv_tableIn (tgt := 104) hx hb dX0_partsBehind_1 (by rw [s1_112]; decide) (by rw [s1_112]; decide) (off := 103) (by rw [s1_112]; rfl) (by decide) ?_
    refine lv_iconst (v := 1) hx hb dX0_partsBehind_104 (by decide) ?_
    obtain rfl := ret1 h
    exact rI hQ hx hb hr hlocks hAe hP hS rfl rfl dX0_partsBehind_105
  replace h := fx_ite_f s1_112 h
  by_cases s1_115 : p0 = 115
  · replace h := fx_ite_t s1_115 h
    refine lv_tableIn (tgt := 106) hx hb dX0_partsBehind_1 (by rw [s1_115]; decide) (by rw [s1_115]; decide) (off := 105) (by rw [s1_115]; rfl) (by decide) ?_
    refine lv_iconst (v := 2) hx hb dX0_partsBehind_106 (by decide) ?_
    obtain rfl := ret1 h
    exact rI hQ hx hb hr hlocks hAe hP hS rfl rfl dX0_partsBehind_107
  replace h := fx_ite_f s1_115 h
  by_cases s1_116 : p0 = 116
  · replace h := fx_ite_t s1_116 h
    refine lv_tableIn (tgt := 108) hx hb dX0_partsBehind_1 (by rw [s1_116]; decide) (by rw [s1_116]; decide) (off := 107) (by rw [s1_116]; rfl) (by decide) ?_
    refine lv_iconst (v := 3) hx hb dX0_partsBehind_108 (by decide) ?_
    obtain rfl := ret1 h
    exact rI hQ hx hb hr hlocks hAe hP hS rfl rfl dX0_partsBehind_109
  replace h := fx_ite_f s1_116 h
  by_cases s1_119 : p0 = 119
  · replace h := fx_ite_t s1_119 h
    refine lv_tableIn (tgt := 106) hx hb dX0_partsBehind_1 (by rw [s1_119]; decide) (by rw [s1_119]; decide) (off := 105) (by rw [s1_119]; rfl) (by decide) ?_
    refine lv_iconst (v := 2) hx hb dX0_partsBehind_106 (by decide) ?_
    obtain rfl := ret1 h
    exact rI hQ hx hb hr hlocks hAe hP hS rfl rfl dX0_partsBehind_107
  replace h := fx_ite_f s1_119 h
  have hdf1 : ∀ (kk : W p l e { frames := 0, cells := 0, slots := 0, locals := 0 } s m args below meth c H locs 0 0 Q (F0 m 110 ls [])), W p l e { frames := 0, cells := 0, slots := 0, locals := 0 } s m args below meth c H locs 0 0 Q (F0 m 1 ls [.int p0]) := by
    intro kk
    by_cases hr1 : Int32.toInt p0 < 98 ∨ 119 < Int32.toInt p0
    · exact lv_tableOut (tgt := 110) hx hb dX0_partsBehind_1 hr1 (by decide) kk
    · refine lv_tableIn (tgt := 110) hx hb dX0_partsBehind_1 (by omega) (by omega) (off := 109) ?_ (by decide) kk
      have a_s1_98 : Int32.toInt p0 ≠ 98 := fx_toInt_ne s1_98; have a_s1_100 : Int32.toInt p0 ≠ 100 := fx_toInt_ne s1_100; have a_s1_110 : Int32.toInt p0 ≠ 110 := fx_toInt_ne s1_110; have a_s1_112 : Int32.toInt p0 ≠ 112 := fx_toInt_ne s1_112; have a_s1_115 : Int32.toInt p0 ≠ 115 := fx_toInt_ne s1_115; have a_s1_116 : Int32.toInt p0 ≠ 116 := fx_toInt_ne s1_116; have a_s1_119 : Int32.toInt p0 ≠ 119 := fx_toInt_ne s1_119
      have e9 : (Int32.toInt p0 - 98).toNat = 1 ∨ (Int32.toInt p0 - 98).toNat = 3 ∨ (Int32.toInt p0 - 98).toNat = 4 ∨ (Int32.toInt p0 - 98).toNat = 5 ∨ (Int32.toInt p0 - 98).toNat = 6 ∨ (Int32.toInt p0 - 98).toNat = 7 ∨ (Int32.toInt p0 - 98).toNat = 8 ∨ (Int32.toInt p0 - 98).toNat = 9 ∨ (Int32.toInt p0 - 98).toNat = 10 ∨ (Int32.toInt p0 - 98).toNat = 11 ∨ (Int32.toInt p0 - 98).toNat = 13 ∨ (Int32.toInt p0 - 98).toNat = 15 ∨ (Int32.toInt p0 - 98).toNat = 16 ∨ (Int32.toInt p0 - 98).toNat = 19 ∨ (Int32.toInt p0 - 98).toNat = 20 := by omega
      rcases e9 with e9 | e9 | e9 | e9 | e9 | e9 | e9 | e9 | e9 | e9 | e9 | e9 | e9 | e9 | e9 <;> rw [e9] <;> rfl
  refine hdf1 ?_
  refine lv_iconst (v := 0) hx hb dX0_partsBehind_110 (by decide) ?_
  obtain rfl := ret1 h
  exact rI hQ hx hb hr hlocks hAe hP hS rfl rfl dX0_partsBehind_111
/-! X0_kindOf -/
set_option maxHeartbeats 4000000 in
set_option maxRecDepth 100000 in
theorem c_X0_kindOf (l : Launch) (D : va_G) (cI : ClassId)   (p0 : Int32) (res : Int32) (h : M_X0_kindOf p0 = some res) : mI l yX0_kindOf wsX0_kindOf { frames := 0, cells := 0, slots := 0, locals := 0 } D cI [.int p0] [] [] res := by
  intro sz
  refine mStart (cc := cX0_kindOf) (maxL := 1) (ret := (some .int)) (own := RX0) (by decide) rfl rfl (Nat.le_of_ble_eq_true rfl) (lv := [(0, .int p0)]) rfl ?_
  intro p e s m args below meth c A ls Q H locs CF hr hlocks hK hP hD hS hA hAe hl hQ
  obtain ⟨hx, hb, hml, hown, hts⟩ := id CF
  unfold M_X0_kindOf at h
  refine lv_iload_n hx hb dX0_kindOf_0 rfl (lv_at hl 0 rfl) ?_
  by_cases s1_99 : p0 = 99
  · replace h := fx_ite_t s1_99 h
    refine lv_lookup (tgt := 62) hx hb dX0_kindOf_1 (by decide) (off := 61) (by rw [s1_99]; rfl) (by decide) ?_
    refine lv_iconst (v := 1) hx hb dX0_kindOf_62 (by decide) ?_
    obtain rfl := ret1 h
    exact rI hQ hx hb hr hlocks hAe hP hS rfl rfl dX0_kindOf_63
  replace h := fx_ite_f s1_99 h
  by_cases s1_103 : p0 = 103
  · replace h := fx_ite_t s1_103 h
    refine lv_lookup (tgt := 64) hx hb dX0_kindOf_1 (by decide) (off := 63) (by rw [s1_103]; rfl) (by decide) ?_
    refine lv_iconst (v := 2) hx hb dX0_kindOf_64 (by decide) ?_
    obtain rfl := ret1 h
    exact rI hQ hx hb hr hlocks hAe hP hS rfl rfl dX0_kindOf_65
  replace h := fx_ite_f s1_103 h
  by_cases s1_107 : p0 = 107
  · replace h := fx_ite_t s1_107 h
    refine lv_lookup (tgt := 68) hx hb dX0_kindOf_1 (by decide) (off := 67) (by rw [s1_107]; rfl) (by decide) ?_
    refine lv_iconst (v := 4) hx hb dX0_kindOf_68 (by decide) ?_
    obtain rfl := ret1 h
    exact rI hQ hx hb hr hlocks hAe hP hS rfl rfl dX0_kindOf_69
  replace h := fx_ite_f s1_107 h
  by_cases s1_108 : p0 = 108
  · replace h := fx_ite_t s1_108 h
    refine lv_lookup (tgt := 70) hx hb dX0_kindOf_1 (by decide) (off := 69) (by rw [s1_108]; rfl) (by decide) ?_
    refine lv_iconst (v := 5) hx hb dX0_kindOf_70 (by decide) ?_
    obtain rfl := ret1 h
    exact rI hQ hx hb hr hlocks hAe hP hS rfl rfl dX0_kindOf_71
  replace h := fx_ite_f s1_108 h
  by_cases s1_116 : p0 = 116
  · replace h := fx_ite_t s1_116 h
    refine lv_lookup (tgt := 60) hx hb dX0_kindOf_1 (by decide) (off := 59) (by rw [s1_116]; rfl) (by decide) ?_
    refine lv_iconst (v := 0) hx hb dX0_kindOf_60 (by decide) ?_
    obtain rfl := ret1 h
    exact rI hQ hx hb hr hlocks hAe hP hS rfl rfl dX0_kindOf_61
  replace h := fx_ite_f s1_116 h
  by_cases s1_119 : p0 = 119
  · replace h := fx_ite_t s1_119 h
    refine lv_lookup (tgt := 66) hx hb dX0_kindOf_1 (by decide) (off := 65) (by rw [s1_119]; rfl) (by decide) ?_
    refine lv_iconst (v := 3) hx hb dX0_kindOf_66 (by decide) ?_
    obtain rfl := ret1 h
    exact rI hQ hx hb hr hlocks hAe hP hS rfl rfl dX0_kindOf_67
  replace h := fx_ite_f s1_119 h
  refine lv_lookup (tgt := 72) hx hb dX0_kindOf_1 (by decide) (off := 71) (by have a_s1_99 : Int32.toInt p0 ≠ 99 := fx_toInt_ne s1_99; have a_s1_103 : Int32.toInt p0 ≠ 103 := fx_toInt_ne s1_103; have a_s1_107 : Int32.toInt p0 ≠ 107 := fx_toInt_ne s1_107; have a_s1_108 : Int32.toInt p0 ≠ 108 := fx_toInt_ne s1_108; have a_s1_116 : Int32.toInt p0 ≠ 116 := fx_toInt_ne s1_116; have a_s1_119 : Int32.toInt p0 ≠ 119 := fx_toInt_ne s1_119; show Op.lookupswitch.offset [(99, 61), (103, 63), (107, 67), (108, 69), (116, 59), (119, 65)] 71 (Int32.toInt p0) = 71; simp only [Op.lookupswitch.offset]; rw [if_neg (Ne.symm a_s1_99), if_neg (Ne.symm a_s1_103), if_neg (Ne.symm a_s1_107), if_neg (Ne.symm a_s1_108), if_neg (Ne.symm a_s1_116), if_neg (Ne.symm a_s1_119)]) (by decide) ?_
  refine lv_bipush (v := (-9)) hx hb dX0_kindOf_72 (by decide) ?_
  obtain rfl := ret1 h
  exact rI hQ hx hb hr hlocks hAe hP hS rfl rfl dX0_kindOf_74
/-! X0_fits -/
set_option maxHeartbeats 4000000 in
set_option maxRecDepth 100000 in
theorem c_X0_fits (l : Launch) (D : va_G) (cI : ClassId) (h0 h1 : Nat) (sg : (Nat → Int32)) (lz : Int32) (p1 : Int32) (p2 : Int32) (p3 : Int32) (res : Int32) (h : M_X0_fits sg lz p1 p2 p3 = some res) : mI l yX0_fits wsX0_fits { frames := 1, cells := 0, slots := 0, locals := 21 } D cI [.ref h0, .int p1, .int p2, .int p3] (cL h0 h1 cI sg lz) (cL h0 h1 cI sg lz) res := by
  intro sz
  refine mStart (cc := cX0_fits) (maxL := 5) (ret := (some .boolean)) (own := RX0) (by decide) rfl rfl (Nat.le_of_ble_eq_true rfl) (lv := [(0, .ref h0), (1, .int p1), (2, .int p2), (3, .int p3)]) rfl ?_
  intro p e s m args below meth c A ls Q H locs CF hr hlocks hK hP hD hS hA hAe hl hQ
  obtain ⟨hx, hb, hml, hown, hts⟩ := id CF
  unfold M_X0_fits at h
  refine lv_aload_n hx hb dX0_fits_0 rfl (lv_at hl 0 rfl) ?_
  refine lv_iload_n hx hb dX0_fits_1 rfl (lv_at hl 1 rfl) ?_
  refine lv_iload_n hx hb dX0_fits_2 rfl (lv_at hl 2 rfl) ?_
  refine lv_iadd hx hb dX0_fits_3 ?_
  obtain ⟨r4, q4, h⟩ := bnd1_inv h
  refine kVI (n := 1) (As := [.int (p1 + p2)]) (rest := []) CF hl hK hP hD hS hA (c_X0_sign l D cI h0 h1 sg lz (p1 + p2) r4 q4) gX0_fits_X0_sign rfl dX0_fits_4 (by decide +kernel) ⟨⟨rfl, rfl⟩, ⟨Nat.le_of_ble_eq_true rfl, Nat.le_of_ble_eq_true rfl⟩, Nat.zero_le _, Nat.zero_le _⟩ (JN.whole rfl) 0 rfl ⟨rfl, rfl⟩ rfl rfl (Nat.le_of_ble_eq_true rfl) (fun H locs hP hD hS => ?_)
  replace hP : va_P D vwCl (cL h0 h1 cI sg lz) H := hP
  replace hD : va_D A (cL h0 h1 cI sg lz) := hD
  refine lv_istore (lv' := [(4, .int r4), (0, .ref h0), (1, .int p1), (2, .int p2), (3, .int p3)]) hx hb dX0_fits_7 hl (by decide) rfl (fun ls hl => ?_)
  refine lv_iload_n hx hb dX0_fits_9 rfl (lv_at hl 3 rfl) ?_
  refine lv_iload_n hx hb dX0_fits_10 rfl (lv_at hl 4 rfl) ?_
  refine lv_icmp_le (tgt := 27) hx hb dX0_fits_11 (by decide) (fun c11 => ?_) (fun c11 => ?_)
  · replace h := fx_ite_t c11 h
    refine lv_iload_n hx hb dX0_fits_27 rfl (lv_at hl 3 rfl) ?_
    refine lv_iconst (v := 1) hx hb dX0_fits_28 (by decide) ?_
    refine lv_icmp_ne (tgt := 58) hx hb dX0_fits_29 (by decide) (fun c29 => ?_) (fun c29 => ?_)
    · replace h := fx_ite_f c29 h
      refine lv_iload hx hb dX0_fits_58 (lv_at hl 0 rfl) ?_
      refine lv_bipush (v := 48) hx hb dX0_fits_60 (by decide) ?_
      refine lv_icmp_lt (tgt := 76) hx hb dX0_fits_62 (by decide) (fun c62 => ?_) (fun c62 => ?_)
      · replace h := fx_ite_t c62 h
        refine lv_iconst (v := 0) hx hb dX0_fits_76 (by decide) ?_
        obtain rfl := ret1 h
        exact rI hQ hx hb hr hlocks hAe hP hS rfl rfl dX0_fits_77
      · replace h := fx_ite_f c62 h
        refine lv_iload hx hb dX0_fits_65 (lv_at hl 0 rfl) ?_
        refine lv_bipush (v := 57) hx hb dX0_fits_67 (by decide) ?_
        refine lv_icmp_gt (tgt := 76) hx hb dX0_fits_69 (by decide) (fun c69 => ?_) (fun c69 => ?_)
        · replace h := fx_ite_t c69 h
          refine lv_iconst (v := 0) hx hb dX0_fits_76 (by decide) ?_
          obtain rfl := ret1 h
          exact rI hQ hx hb hr hlocks hAe hP hS rfl rfl dX0_fits_77
        · replace h := fx_ite_f c69 h
          refine lv_iconst (v := 1) hx hb dX0_fits_72 (by decide) ?_
          refine lv_goto (tgt := 77) hx hb dX0_fits_73 (by decide) ?_
          obtain rfl := ret1 h
          exact rI hQ hx hb hr hlocks hAe hP hS rfl rfl dX0_fits_77
    · replace h := fx_ite_t c29 h
      refine lv_aload_n hx hb dX0_fits_32 rfl (lv_at hl 1 rfl) ?_
      refine lv_iload_n hx hb dX0_fits_33 rfl (lv_at hl 2 rfl) ?_
      obtain ⟨r34, q34, h⟩ := bnd1_inv h
      refine kVI (n := 1) (As := [.int p1]) (rest := []) CF hl hK hP hD hS hA (c_X0_sign l D cI h0 h1 sg lz p1 r34 q34) gX0_fits_X0_sign rfl dX0_fits_34 (by decide +kernel) ⟨⟨rfl, rfl⟩, ⟨Nat.le_of_ble_eq_true rfl, Nat.le_of_ble_eq_true rfl⟩, Nat.zero_le _, Nat.zero_le _⟩ (JN.whole rfl) 0 rfl ⟨rfl, rfl⟩ rfl rfl (Nat.le_of_ble_eq_true rfl) (fun H locs hP hD hS => ?_)
      replace hP : va_P D vwCl (cL h0 h1 cI sg lz) H := hP
      replace hD : va_D A (cL h0 h1 cI sg lz) := hD
      refine lv_bipush (v := 116) hx hb dX0_fits_37 (by decide) ?_
      refine lv_icmp_ne (tgt := 58) hx hb dX0_fits_39 (by decide) (fun c39 => ?_) (fun c39 => ?_)
      · replace h := fx_ite_f c39 h
        refine lv_iload hx hb dX0_fits_58 (lv_at hl 0 rfl) ?_
        refine lv_bipush (v := 48) hx hb dX0_fits_60 (by decide) ?_
        refine lv_icmp_lt (tgt := 76) hx hb dX0_fits_62 (by decide) (fun c62 => ?_) (fun c62 => ?_)
        · replace h := fx_ite_t c62 h
          refine lv_iconst (v := 0) hx hb dX0_fits_76 (by decide) ?_
          obtain rfl := ret1 h
          exact rI hQ hx hb hr hlocks hAe hP hS rfl rfl dX0_fits_77
        · replace h := fx_ite_f c62 h
          refine lv_iload hx hb dX0_fits_65 (lv_at hl 0 rfl) ?_
          refine lv_bipush (v := 57) hx hb dX0_fits_67 (by decide) ?_
          refine lv_icmp_gt (tgt := 76) hx hb dX0_fits_69 (by decide) (fun c69 => ?_) (fun c69 => ?_)
          · replace h := fx_ite_t c69 h
            refine lv_iconst (v := 0) hx hb dX0_fits_76 (by decide) ?_
            obtain rfl := ret1 h
            exact rI hQ hx hb hr hlocks hAe hP hS rfl rfl dX0_fits_77
          · replace h := fx_ite_f c69 h
            refine lv_iconst (v := 1) hx hb dX0_fits_72 (by decide) ?_
            refine lv_goto (tgt := 77) hx hb dX0_fits_73 (by decide) ?_
            obtain rfl := ret1 h
            exact rI hQ hx hb hr hlocks hAe hP hS rfl rfl dX0_fits_77
      · replace h := fx_ite_t c39 h
        refine lv_iload hx hb dX0_fits_42 (lv_at hl 0 rfl) ?_
        obtain ⟨r44, q44, h⟩ := bnd1_inv h
        refine kSI (n := 1) (As := [.int r4]) (rest := []) CF hl hK hP hD hS hA (c_X0_kindOf l D cI   r4 r44 q44) gX0_fits_X0_kindOf rfl dX0_fits_44 (by decide +kernel) ⟨⟨rfl, rfl⟩, ⟨Nat.le_of_ble_eq_true rfl, Nat.le_of_ble_eq_true rfl⟩, Nat.zero_le _, Nat.zero_le _⟩ (JN.ro [] rfl rfl) rfl rfl (Nat.le_of_ble_eq_true rfl) (fun H locs hP hD hS => ?_)
        refine lv_bipush (v := (-9)) hx hb dX0_fits_47 (by decide) ?_
        refine lv_icmp_eq (tgt := 56) hx hb dX0_fits_49 (by decide) (fun c49 => ?_) (fun c49 => ?_)
        · replace h := fx_ite_t c49 h
          refine lv_iconst (v := 0) hx hb dX0_fits_56 (by decide) ?_
          obtain rfl := ret1 h
          exact rI hQ hx hb hr hlocks hAe hP hS rfl rfl dX0_fits_57
        · replace h := fx_ite_f c49 h
          refine lv_iconst (v := 1) hx hb dX0_fits_52 (by decide) ?_
          refine lv_goto (tgt := 57) hx hb dX0_fits_53 (by decide) ?_
          obtain rfl := ret1 h
          exact rI hQ hx hb hr hlocks hAe hP hS rfl rfl dX0_fits_57
  · replace h := fx_ite_f c11 h
    refine lv_iload hx hb dX0_fits_14 (lv_at hl 0 rfl) ?_
    refine lv_bipush (v := 59) hx hb dX0_fits_16 (by decide) ?_
    refine lv_icmp_ne (tgt := 25) hx hb dX0_fits_18 (by decide) (fun c18 => ?_) (fun c18 => ?_)
    · replace h := fx_ite_f c18 h
      refine lv_iconst (v := 0) hx hb dX0_fits_25 (by decide) ?_
      obtain rfl := ret1 h
      exact rI hQ hx hb hr hlocks hAe hP hS rfl rfl dX0_fits_26
    · replace h := fx_ite_t c18 h
      refine lv_iconst (v := 1) hx hb dX0_fits_21 (by decide) ?_
      refine lv_goto (tgt := 26) hx hb dX0_fits_22 (by decide) ?_
      obtain rfl := ret1 h
      exact rI hQ hx hb hr hlocks hAe hP hS rfl rfl dX0_fits_26
/-! X0_formFault -/
set_option maxHeartbeats 4000000 in
set_option maxRecDepth 100000 in
theorem c_X0_formFault (l : Launch) (D : va_G) (cI : ClassId) (h0 h1 : Nat) (sg : (Nat → Int32)) (lz : Int32)  (res : Int32) (h : M_X0_formFault sg lz = some res) : mI l yX0_formFault wsX0_formFault { frames := 2, cells := 0, slots := 0, locals := 45 } D cI [.ref h0] (cL h0 h1 cI sg lz) (cL h0 h1 cI sg lz) res := by
  intro sz
  refine mStart (cc := cX0_formFault) (maxL := 4) (ret := (some .int)) (own := RX0) (by decide) rfl rfl (Nat.le_of_ble_eq_true rfl) (lv := [(0, .ref h0)]) rfl ?_
  intro p e s m args below meth c A ls Q H locs CF hr hlocks hK hP hD hS hA hAe hl hQ
  obtain ⟨hx, hb, hml, hown, hts⟩ := id CF
  have f15 := hts (.fieldLink RX0 15 "MendAnothersBreaking$Letters" "size" "I") (List.mem_of_getElem? (i := 1) rfl)
  have i0 : ∀ w ∈ wsX00, w ∈ wsX0_formFault := fun w h => List.mem_cons_of_mem _ (List.mem_append_right _ h)
  have L36 : ∀ (n : Nat) (x1 : Int32) (x2 : Int32) (k78 : Unit → Option (Int32)) (k53 : Unit → Option (Int32)) (k68 : Int32 → Option (Int32)) (x3 : Int32), fuel (fun _ => none) (B_X0_formFault_36 x1 x2 sg lz k78 k53 k68) n x3 = some res → 
      (∀ (_ : Unit), k78 () = some res → ∀ (H : Heap) (locs : List Loc) (ls : Array Slot), va_P D vwCl (cL h0 h1 cI sg lz) H → va_D A (cL h0 h1 cI sg lz) → va_S A s.heap H locs → lv_has ls 4 [(0, .ref h0), (1, .int x1), (2, .int x2)] → W p l e { frames := 2, cells := 0, slots := 0, locals := 45 } s m args below meth c H locs 0 0 Q (F0 m 78 ls [])) → 
      (∀ (_ : Unit), k53 () = some res → ∀ (H : Heap) (locs : List Loc) (ls : Array Slot), va_P D vwCl (cL h0 h1 cI sg lz) H → va_D A (cL h0 h1 cI sg lz) → va_S A s.heap H locs → lv_has ls 4 [(0, .ref h0)] → W p l e { frames := 2, cells := 0, slots := 0, locals := 45 } s m args below meth c H locs 0 0 Q (F0 m 53 ls [])) → 
      (∀ (x3 : Int32), k68 x3 = some res → ∀ (H : Heap) (locs : List Loc) (ls : Array Slot), va_P D vwCl (cL h0 h1 cI sg lz) H → va_D A (cL h0 h1 cI sg lz) → va_S A s.heap H locs → lv_has ls 4 [(1, .int x1), (3, .int x3)] → W p l e { frames := 2, cells := 0, slots := 0, locals := 45 } s m args below meth c H locs 0 0 Q (F0 m 68 ls [])) → 
      ∀ (H : Heap) (locs : List Loc) (ls : Array Slot), va_P D vwCl (cL h0 h1 cI sg lz) H → va_D A (cL h0 h1 cI sg lz) → va_S A s.heap H locs → lv_has ls 4 [(0, .ref h0), (1, .int x1), (2, .int x2), (3, .int x3)] → W p l e { frames := 2, cells := 0, slots := 0, locals := 45 } s m args below meth c H locs 0 0 Q (F0 m 36 ls []) := by
    intro n
    induction n with
    | zero =>
      intro x1 x2 k78 k53 k68 x3 h
      exact nomatch (show (none : Option (Int32)) = some res from h)
    | succ n ih =>
      intro x1 x2 k78 k53 k68 x3 h hk78 hk53 hk68 H locs ls hP hD hS hl
      replace h : B_X0_formFault_36 x1 x2 sg lz k78 k53 k68 (fuel (fun _ => none) (B_X0_formFault_36 x1 x2 sg lz k78 k53 k68) n) x3 = some res := h
      unfold B_X0_formFault_36 at h
      refine lv_iload_n hx hb dX0_formFault_36 rfl (lv_at hl 3 rfl) ?_
      refine lv_iload_n hx hb dX0_formFault_37 rfl (lv_at hl 2 rfl) ?_
      refine lv_iconst (v := 1) hx hb dX0_formFault_38 (by decide) ?_
      refine lv_iadd hx hb dX0_formFault_39 ?_
      refine lv_icmp_gt (tgt := 78) hx hb dX0_formFault_40 (by decide) (fun c40 => ?_) (fun c40 => ?_)
      · replace h := fx_ite_t c40 h
        exact hk78 () h _ _ _ hP hD hS (lv_sub hl [0, 1, 2] rfl)
      · replace h := fx_ite_f c40 h
        refine lv_iload_n hx hb dX0_formFault_43 rfl (lv_at hl 1 rfl) ?_
        refine lv_iload_n hx hb dX0_formFault_44 rfl (lv_at hl 3 rfl) ?_
        refine lv_iadd hx hb dX0_formFault_45 ?_
        refine lv_aload_n hx hb dX0_formFault_46 rfl (lv_at hl 0 rfl) ?_
        refine va_get (D := D) (ci := 0) (v := .int lz) (C := RX0) (T := TX0) (N := 2) hx hb hts i0 hown hK hP 0 rfl rfl 1 (by decide) f15 (fun _ h9 => h9) rfl dX0_formFault_47 ?_
        refine lv_icmp_lt (tgt := 58) hx hb dX0_formFault_50 (by decide) (fun c50 => ?_) (fun c50 => ?_)
        · replace h := fx_ite_t c50 h
          refine lv_aload_n hx hb dX0_formFault_58 rfl (lv_at hl 0 rfl) ?_
          refine lv_iload_n hx hb dX0_formFault_59 rfl (lv_at hl 1 rfl) ?_
          refine lv_iload_n hx hb dX0_formFault_60 rfl (lv_at hl 3 rfl) ?_
          refine lv_iload_n hx hb dX0_formFault_61 rfl (lv_at hl 2 rfl) ?_
          obtain ⟨r62, q62, h⟩ := bnd1_inv h
          refine kVI (n := 3) (As := [.int x1, .int x3, .int x2]) (rest := []) CF hl hK hP hD hS hA (c_X0_fits l D cI h0 h1 sg lz x1 x3 x2 r62 q62) gX0_formFault_X0_fits rfl dX0_formFault_62 (by decide +kernel) ⟨⟨rfl, rfl⟩, ⟨Nat.le_of_ble_eq_true rfl, Nat.le_of_ble_eq_true rfl⟩, Nat.zero_le _, Nat.zero_le _⟩ (JN.whole rfl) 0 rfl ⟨rfl, rfl⟩ rfl rfl (Nat.le_of_ble_eq_true rfl) (fun H locs hP hD hS => ?_)
          replace hP : va_P D vwCl (cL h0 h1 cI sg lz) H := hP
          replace hD : va_D A (cL h0 h1 cI sg lz) := hD
          refine lv_if_ne (tgt := 72) hx hb dX0_formFault_65 (by decide) (fun c65 => ?_) (fun c65 => ?_)
          · replace h := fx_ite_f c65 h
            refine lv_iinc (v := (x3 + 1)) (lv' := [(3, .int (x3 + 1)), (0, .ref h0), (1, .int x1), (2, .int x2)]) hx hb dX0_formFault_72 hl (k := 3) rfl (by first | rfl | decide) (by decide) rfl (fun ls hl => ?_)
            refine lv_goto (tgt := 36) hx hb dX0_formFault_75 (by decide) ?_
            exact ih _ _ _ _ _ _ h hk78 hk53 hk68 _ _ _ hP hD hS (lv_sub hl [1, 2, 3, 0] rfl)
          · replace h := fx_ite_t c65 h
            exact hk68 _ h _ _ _ hP hD hS (lv_sub hl [1, 3] rfl)
        · replace h := fx_ite_f c50 h
          exact hk53 () h _ _ _ hP hD hS (lv_sub hl [0] rfl)
  have L11 : ∀ (n : Nat)  (x1 : Int32), fuel (fun _ => none) (B_X0_formFault_11 sg lz) n x1 = some res → 
      ∀ (H : Heap) (locs : List Loc) (ls : Array Slot), va_P D vwCl (cL h0 h1 cI sg lz) H → va_D A (cL h0 h1 cI sg lz) → va_S A s.heap H locs → lv_has ls 4 [(0, .ref h0), (1, .int x1)] → W p l e { frames := 2, cells := 0, slots := 0, locals := 45 } s m args below meth c H locs 0 0 Q (F0 m 11 ls []) := by
    intro n
    induction n with
    | zero =>
      intro x1 h
      exact nomatch (show (none : Option (Int32)) = some res from h)
    | succ n ih =>
      intro x1 h  H locs ls hP hD hS hl
      replace h : B_X0_formFault_11 sg lz (fuel (fun _ => none) (B_X0_formFault_11 sg lz) n) x1 = some res := h
      unfold B_X0_formFault_11 at h
      refine lv_iload_n hx hb dX0_formFault_11 rfl (lv_at hl 1 rfl) ?_
      refine lv_aload_n hx hb dX0_formFault_12 rfl (lv_at hl 0 rfl) ?_
      refine va_get (D := D) (ci := 0) (v := .int lz) (C := RX0) (T := TX0) (N := 2) hx hb hts i0 hown hK hP 0 rfl rfl 1 (by decide) f15 (fun _ h9 => h9) rfl dX0_formFault_13 ?_
      refine lv_icmp_ge (tgt := 87) hx hb dX0_formFault_16 (by decide) (fun c16 => ?_) (fun c16 => ?_)
      · replace h := fx_ite_t c16 h
        refine lv_bipush (v := (-9)) hx hb dX0_formFault_87 (by decide) ?_
        obtain rfl := ret1 h
        exact rI hQ hx hb hr hlocks hAe hP hS rfl rfl dX0_formFault_89
      · replace h := fx_ite_f c16 h
        refine lv_aload_n hx hb dX0_formFault_19 rfl (lv_at hl 0 rfl) ?_
        refine lv_iload_n hx hb dX0_formFault_20 rfl (lv_at hl 1 rfl) ?_
        obtain ⟨r21, q21, h⟩ := bnd1_inv h
        refine kVI (n := 1) (As := [.int x1]) (rest := []) CF hl hK hP hD hS hA (c_X0_sign l D cI h0 h1 sg lz x1 r21 q21) gX0_formFault_X0_sign rfl dX0_formFault_21 (by decide +kernel) ⟨⟨rfl, rfl⟩, ⟨Nat.le_of_ble_eq_true rfl, Nat.le_of_ble_eq_true rfl⟩, Nat.zero_le _, Nat.zero_le _⟩ (JN.whole rfl) 0 rfl ⟨rfl, rfl⟩ rfl rfl (Nat.le_of_ble_eq_true rfl) (fun H locs hP hD hS => ?_)
        replace hP : va_P D vwCl (cL h0 h1 cI sg lz) H := hP
        replace hD : va_D A (cL h0 h1 cI sg lz) := hD
        obtain ⟨r24, q24, h⟩ := bnd1_inv h
        refine kSI (n := 1) (As := [.int r21]) (rest := []) CF hl hK hP hD hS hA (c_X0_partsBehind l D cI   r21 r24 q24) gX0_formFault_X0_partsBehind rfl dX0_formFault_24 (by decide +kernel) ⟨⟨rfl, rfl⟩, ⟨Nat.le_of_ble_eq_true rfl, Nat.le_of_ble_eq_true rfl⟩, Nat.zero_le _, Nat.zero_le _⟩ (JN.ro [] rfl rfl) rfl rfl (Nat.le_of_ble_eq_true rfl) (fun H locs hP hD hS => ?_)
        refine lv_istore_n (lv' := [(2, .int r24), (0, .ref h0), (1, .int x1)]) hx hb dX0_formFault_27 rfl hl (by decide) rfl (fun ls hl => ?_)
        refine lv_iload_n hx hb dX0_formFault_28 rfl (lv_at hl 0 rfl) ?_
        refine lv_if_ne (tgt := 34) hx hb dX0_formFault_29 (by decide) (fun c29 => ?_) (fun c29 => ?_)
        · replace h := fx_ite_f c29 h
          refine lv_iconst (v := 1) hx hb dX0_formFault_34 (by decide) ?_
          refine lv_istore_n (lv' := [(3, .int (1 : Int32)), (2, .int r24), (0, .ref h0), (1, .int x1)]) hx hb dX0_formFault_35 rfl hl (by decide) rfl (fun ls hl => ?_)
          refine L36 FU _ _ _ _ _ _ h (fun _ h H locs ls hP hD hS hl => ?_) (fun _ h H locs ls hP hD hS hl => ?_) (fun x3 h H locs ls hP hD hS hl => ?_) _ _ _ hP hD hS (lv_sub hl [2, 3, 1, 0] rfl)
          · refine lv_iload_n hx hb dX0_formFault_78 rfl (lv_at hl 1 rfl) ?_
            refine lv_iload_n hx hb dX0_formFault_79 rfl (lv_at hl 2 rfl) ?_
            refine lv_iconst (v := 2) hx hb dX0_formFault_80 (by decide) ?_
            refine lv_iadd hx hb dX0_formFault_81 ?_
            refine lv_iadd hx hb dX0_formFault_82 ?_
            refine lv_istore_n (lv' := [(1, .int (x1 + (r24 + (2 : Int32)))), (0, .ref h0), (2, .int r24)]) hx hb dX0_formFault_83 rfl hl (by decide) rfl (fun ls hl => ?_)
            refine lv_goto (tgt := 11) hx hb dX0_formFault_84 (by decide) ?_
            exact ih _ h  _ _ _ hP hD hS (lv_sub hl [1, 0] rfl)
          · refine lv_aload_n hx hb dX0_formFault_53 rfl (lv_at hl 0 rfl) ?_
            refine va_get (D := D) (ci := 0) (v := .int lz) (C := RX0) (T := TX0) (N := 2) hx hb hts i0 hown hK hP 0 rfl rfl 1 (by decide) f15 (fun _ h9 => h9) rfl dX0_formFault_54 ?_
            obtain rfl := ret1 h
            exact rI hQ hx hb hr hlocks hAe hP hS rfl rfl dX0_formFault_57
          · refine lv_iload_n hx hb dX0_formFault_68 rfl (lv_at hl 0 rfl) ?_
            refine lv_iload_n hx hb dX0_formFault_69 rfl (lv_at hl 1 rfl) ?_
            refine lv_iadd hx hb dX0_formFault_70 ?_
            obtain rfl := ret1 h
            exact rI hQ hx hb hr hlocks hAe hP hS rfl rfl dX0_formFault_71
        · replace h := fx_ite_t c29 h
          refine lv_iload_n hx hb dX0_formFault_32 rfl (lv_at hl 2 rfl) ?_
          obtain rfl := ret1 h
          exact rI hQ hx hb hr hlocks hAe hP hS rfl rfl dX0_formFault_33
  unfold M_X0_formFault at h
  refine lv_aload_n hx hb dX0_formFault_0 rfl (lv_at hl 0 rfl) ?_
  refine va_get (D := D) (ci := 0) (v := .int lz) (C := RX0) (T := TX0) (N := 2) hx hb hts i0 hown hK hP 0 rfl rfl 1 (by decide) f15 (fun _ h9 => h9) rfl dX0_formFault_1 ?_
  refine lv_if_ne (tgt := 9) hx hb dX0_formFault_4 (by decide) (fun c4 => ?_) (fun c4 => ?_)
  · replace h := fx_ite_f c4 h
    refine lv_iconst (v := 0) hx hb dX0_formFault_9 (by decide) ?_
    refine lv_istore_n (lv' := [(1, .int (0 : Int32)), (0, .ref h0)]) hx hb dX0_formFault_10 rfl hl (by decide) rfl (fun ls hl => ?_)
    exact L11 FU _ h  _ _ _ hP hD hS (lv_sub hl [1, 0] rfl)
  · replace h := fx_ite_t c4 h
    refine lv_iconst (v := 0) hx hb dX0_formFault_7 (by decide) ?_
    obtain rfl := ret1 h
    exact rI hQ hx hb hr hlocks hAe hP hS rfl rfl dX0_formFault_8
/-! X0_tellBroken -/
set_option maxHeartbeats 4000000 in
set_option maxRecDepth 100000 in
theorem c_X0_tellBroken (l : Launch) (D : va_G) (cI : ClassId) (h0 h1 h2 h3 h4 h5 h6 h7 : Nat) (v : SV) (p1 : Int32) (p2 : Int32) (p3 : Int32) (res : Int32) (u_v : SV) (h : M_X0_tellBroken v p1 p2 p3 = some (res, u_v)) : mI l yX0_tellBroken wsX0_tellBroken { frames := 1, cells := 0, slots := 0, locals := 21 } D cI [.ref h0, .int p1, .int p2, .int p3] (cS h0 h1 h2 h3 h4 h5 h6 h7 cI v) (cS h0 h1 h2 h3 h4 h5 h6 h7 cI u_v) res := by
  intro sz
  refine mStart (cc := cX0_tellBroken) (maxL := 4) (ret := (some .boolean)) (own := RX0) (by decide) rfl rfl (Nat.le_of_ble_eq_true rfl) (lv := [(0, .ref h0), (1, .int p1), (2, .int p2), (3, .int p3)]) rfl ?_
  intro p e s m args below meth c A ls Q H locs CF hr hlocks hK hP hD hS hA hAe hl hQ
  obtain ⟨hx, hb, hml, hown, hts⟩ := id CF
  have f71 := hts (.fieldLink RX0 71 "MendAnothersBreaking$State" "breakers" "[I") (List.mem_of_getElem? (i := 1) rfl)
  have i2 : ∀ w ∈ wsX20, w ∈ wsX0_tellBroken := fun w h => List.mem_cons_of_mem _ (List.mem_append_right _ h)
  unfold M_X0_tellBroken at h
  refine lv_aload_n hx hb dX0_tellBroken_0 rfl (lv_at hl 0 rfl) ?_
  refine lv_iload_n hx hb dX0_tellBroken_1 rfl (lv_at hl 1 rfl) ?_
  obtain ⟨r2, q2, h⟩ := bnd1_inv h
  refine kVI (n := 1) (As := [.int p1]) (rest := []) CF hl hK hP hD hS hA (c_X2_isThing l D cI h0 h1 h2 h3 h4 h5 h6 h7 v p1 r2 q2) gX0_tellBroken_X2_isThing rfl dX0_tellBroken_2 (by decide +kernel) ⟨⟨rfl, rfl⟩, ⟨Nat.le_of_ble_eq_true rfl, Nat.le_of_ble_eq_true rfl⟩, Nat.zero_le _, Nat.zero_le _⟩ (JN.whole rfl) 0 rfl ⟨rfl, rfl⟩ rfl rfl (Nat.le_of_ble_eq_true rfl) (fun H locs hP hD hS => ?_)
  replace hP : va_P D vwCl (cS h0 h1 h2 h3 h4 h5 h6 h7 cI v) H := hP
  replace hD : va_D A (cS h0 h1 h2 h3 h4 h5 h6 h7 cI v) := hD
  refine lv_if_eq (tgt := 18) hx hb dX0_tellBroken_5 (by decide) (fun c5 => ?_) (fun c5 => ?_)
  · replace h := fx_ite_t c5 h
    refine lv_iconst (v := 0) hx hb dX0_tellBroken_18 (by decide) ?_
    obtain ⟨rfl, rfl⟩ := ret2 h
    exact rI hQ hx hb hr hlocks hAe hP hS rfl rfl dX0_tellBroken_19
  · replace h := fx_ite_f c5 h
    refine lv_aload_n hx hb dX0_tellBroken_8 rfl (lv_at hl 0 rfl) ?_
    refine va_get (D := D) (ci := 2) (v := .ref h7) (C := RX2) (T := TX2) (N := 10) hx hb hts i2 hown hK hP 0 rfl rfl 6 (by decide) f71 (fun _ h9 => h9) rfl dX0_tellBroken_9 ?_
    refine lv_iload_n hx hb dX0_tellBroken_12 rfl (lv_at hl 1 rfl) ?_
    obtain ⟨g13, h⟩ := chk_inv h
    refine va_iald (n := 9) (f := (sBr v)) hx hb hK hP 7 0 rfl rfl g13 dX0_tellBroken_13 ?_
    refine lv_iload_n hx hb dX0_tellBroken_14 rfl (lv_at hl 2 rfl) ?_
    refine lv_icmp_eq (tgt := 20) hx hb dX0_tellBroken_15 (by decide) (fun c15 => ?_) (fun c15 => ?_)
    · replace h := fx_ite_t c15 h
      refine lv_aload_n hx hb dX0_tellBroken_20 rfl (lv_at hl 0 rfl) ?_
      refine va_get (D := D) (ci := 2) (v := .ref h7) (C := RX2) (T := TX2) (N := 10) hx hb hts i2 hown hK hP 0 rfl rfl 6 (by decide) f71 (fun _ h9 => h9) rfl dX0_tellBroken_21 ?_
      refine lv_iload_n hx hb dX0_tellBroken_24 rfl (lv_at hl 1 rfl) ?_
      refine lv_iload_n hx hb dX0_tellBroken_25 rfl (lv_at hl 3 rfl) ?_
      obtain ⟨g26, h⟩ := chk_inv h
      refine va_iast (n := 9) (f := (sBr v)) hx hb hK hP hD hS 7 0 rfl rfl g26 dX0_tellBroken_26 (fun H locs hP hD hS => ?_)
      replace hP : va_P D vwCl (cS h0 h1 h2 h3 h4 h5 h6 h7 cI (sUBr v (upd (sBr v) (Int32.toNatClampNeg p1) p3))) H := hP
      replace hD : va_D A (cS h0 h1 h2 h3 h4 h5 h6 h7 cI (sUBr v (upd (sBr v) (Int32.toNatClampNeg p1) p3))) := hD
      refine lv_iconst (v := 1) hx hb dX0_tellBroken_27 (by decide) ?_
      obtain ⟨rfl, rfl⟩ := ret2 h
      exact rI hQ hx hb hr hlocks hAe hP hS rfl rfl dX0_tellBroken_28
    · replace h := fx_ite_f c15 h
      refine lv_iconst (v := 0) hx hb dX0_tellBroken_18 (by decide) ?_
      obtain ⟨rfl, rfl⟩ := ret2 h
      exact rI hQ hx hb hr hlocks hAe hP hS rfl rfl dX0_tellBroken_19
/-! X0_tellWear -/
set_option maxHeartbeats 4000000 in
set_option maxRecDepth 100000 in
theorem c_X0_tellWear (l : Launch) (D : va_G) (cI : ClassId) (h0 h1 h2 h3 h4 h5 h6 h7 : Nat) (v : SV) (p1 : Int32) (p2 : Int32) (res : Int32) (u_v : SV) (h : M_X0_tellWear v p1 p2 = some (res, u_v)) : mI l yX0_tellWear wsX0_tellWear { frames := 1, cells := 0, slots := 0, locals := 21 } D cI [.ref h0, .int p1, .int p2] (cS h0 h1 h2 h3 h4 h5 h6 h7 cI v) (cS h0 h1 h2 h3 h4 h5 h6 h7 cI u_v) res := by
  intro sz
  refine mStart (cc := cX0_tellWear) (maxL := 3) (ret := (some .boolean)) (own := RX0) (by decide) rfl rfl (Nat.le_of_ble_eq_true rfl) (lv := [(0, .ref h0), (1, .int p1), (2, .int p2)]) rfl ?_
  intro p e s m args below meth c A ls Q H locs CF hr hlocks hK hP hD hS hA hAe hl hQ
  obtain ⟨hx, hb, hml, hown, hts⟩ := id CF
  have f74 := hts (.fieldLink RX0 74 "MendAnothersBreaking$State" "wear" "[I") (List.mem_of_getElem? (i := 1) rfl)
  have i2 : ∀ w ∈ wsX20, w ∈ wsX0_tellWear := fun w h => List.mem_cons_of_mem _ (List.mem_append_right _ h)
  unfold M_X0_tellWear at h
  refine lv_aload_n hx hb dX0_tellWear_0 rfl (lv_at hl 0 rfl) ?_
  refine lv_iload_n hx hb dX0_tellWear_1 rfl (lv_at hl 1 rfl) ?_
  obtain ⟨r2, q2, h⟩ := bnd1_inv h
  refine kVI (n := 1) (As := [.int p1]) (rest := []) CF hl hK hP hD hS hA (c_X2_isThing l D cI h0 h1 h2 h3 h4 h5 h6 h7 v p1 r2 q2) gX0_tellWear_X2_isThing rfl dX0_tellWear_2 (by decide +kernel) ⟨⟨rfl, rfl⟩, ⟨Nat.le_of_ble_eq_true rfl, Nat.le_of_ble_eq_true rfl⟩, Nat.zero_le _, Nat.zero_le _⟩ (JN.whole rfl) 0 rfl ⟨rfl, rfl⟩ rfl rfl (Nat.le_of_ble_eq_true rfl) (fun H locs hP hD hS => ?_)
  replace hP : va_P D vwCl (cS h0 h1 h2 h3 h4 h5 h6 h7 cI v) H := hP
  replace hD : va_D A (cS h0 h1 h2 h3 h4 h5 h6 h7 cI v) := hD
  refine lv_if_ne (tgt := 10) hx hb dX0_tellWear_5 (by decide) (fun c5 => ?_) (fun c5 => ?_)
  · replace h := fx_ite_f c5 h
    refine lv_aload_n hx hb dX0_tellWear_10 rfl (lv_at hl 0 rfl) ?_
    refine va_get (D := D) (ci := 2) (v := .ref h6) (C := RX2) (T := TX2) (N := 10) hx hb hts i2 hown hK hP 0 rfl rfl 5 (by decide) f74 (fun _ h9 => h9) rfl dX0_tellWear_11 ?_
    refine lv_iload_n hx hb dX0_tellWear_14 rfl (lv_at hl 1 rfl) ?_
    refine lv_iload_n hx hb dX0_tellWear_15 rfl (lv_at hl 2 rfl) ?_
    obtain ⟨g16, h⟩ := chk_inv h
    refine va_iast (n := 9) (f := (sWe v)) hx hb hK hP hD hS 6 0 rfl rfl g16 dX0_tellWear_16 (fun H locs hP hD hS => ?_)
    replace hP : va_P D vwCl (cS h0 h1 h2 h3 h4 h5 h6 h7 cI (sUWe v (upd (sWe v) (Int32.toNatClampNeg p1) p2))) H := hP
    replace hD : va_D A (cS h0 h1 h2 h3 h4 h5 h6 h7 cI (sUWe v (upd (sWe v) (Int32.toNatClampNeg p1) p2))) := hD
    refine lv_iconst (v := 1) hx hb dX0_tellWear_17 (by decide) ?_
    obtain ⟨rfl, rfl⟩ := ret2 h
    exact rI hQ hx hb hr hlocks hAe hP hS rfl rfl dX0_tellWear_18
  · replace h := fx_ite_t c5 h
    refine lv_iconst (v := 0) hx hb dX0_tellWear_8 (by decide) ?_
    obtain ⟨rfl, rfl⟩ := ret2 h
    exact rI hQ hx hb hr hlocks hAe hP hS rfl rfl dX0_tellWear_9
