/-! X0_tellOne -/
set_option maxHeartbeats 4000000 in
set_option maxRecDepth 100000 in
theorem c_X0_tellOne (l : Launch) (D : va_G) (cI : ClassId) (h0 h1 g0 g1 g2 g3 g4 g5 g6 g7 : Nat) (sg : (Nat → Int32)) (lz : Int32) (v : SV) (p2 : Int32) (res : Int32) (u_v : SV) (h : M_X0_tellOne sg lz v p2 = some (res, u_v)) : mI l yX0_tellOne wsX0_tellOne { frames := 5, cells := 0, slots := 0, locals := 115 } D cI [.ref h0, .ref g0, .int p2] (cL h0 h1 cI sg lz ++ cS g0 g1 g2 g3 g4 g5 g6 g7 cI v) (cL h0 h1 cI sg lz ++ cS g0 g1 g2 g3 g4 g5 g6 g7 cI u_v) res := by
  intro sz
  refine mStart (cc := cX0_tellOne) (maxL := 6) (ret := (some .boolean)) (own := RX0) (by decide) rfl rfl (Nat.le_of_ble_eq_true rfl) (lv := [(0, .ref h0), (1, .ref g0), (2, .int p2)]) rfl ?_
  intro p e s m args below meth c A ls Q H locs CF hr hlocks hK hP hD hS hA hAe hl hQ
  obtain ⟨hx, hb, hml, hown, hts⟩ := id CF
  have f61 := hts (.fieldLink RX0 61 "MendAnothersBreaking$State" "day" "I") (List.mem_of_getElem? (i := 1) rfl)
  have i2 : ∀ w ∈ wsX20, w ∈ wsX0_tellOne := fun w h => List.mem_cons_of_mem _ (List.mem_append_left _ (List.mem_append_right _ h))
  unfold M_X0_tellOne at h
  refine lv_aload_n hx hb dX0_tellOne_0 rfl (lv_at hl 0 rfl) ?_
  refine lv_iload_n hx hb dX0_tellOne_1 rfl (lv_at hl 2 rfl) ?_
  refine lv_iconst (v := 1) hx hb dX0_tellOne_2 (by decide) ?_
  refine lv_iadd hx hb dX0_tellOne_3 ?_
  obtain ⟨r4, q4, h⟩ := bnd1_inv h
  refine kVI (n := 1) (As := [.int (p2 + (1 : Int32))]) (rest := []) CF hl hK hP hD hS hA (c_X0_sign l D cI h0 h1 sg lz (p2 + (1 : Int32)) r4 q4) gX0_tellOne_X0_sign rfl dX0_tellOne_4 (by decide +kernel) ⟨⟨rfl, rfl⟩, ⟨Nat.le_of_ble_eq_true rfl, Nat.le_of_ble_eq_true rfl⟩, Nat.zero_le _, Nat.zero_le _⟩ (JN.ro [0, 1] rfl rfl) 0 rfl ⟨rfl, rfl⟩ rfl rfl (Nat.le_of_ble_eq_true rfl) (fun H locs hP hD hS => ?_)
  refine lv_bipush (v := 48) hx hb dX0_tellOne_7 (by decide) ?_
  refine lv_isub hx hb dX0_tellOne_9 ?_
  refine lv_istore_n (lv' := [(3, .int (r4 - (48 : Int32))), (0, .ref h0), (1, .ref g0), (2, .int p2)]) hx hb dX0_tellOne_10 rfl hl (by decide) rfl (fun ls hl => ?_)
  refine lv_aload_n hx hb dX0_tellOne_11 rfl (lv_at hl 1 rfl) ?_
  refine lv_iload_n hx hb dX0_tellOne_12 rfl (lv_at hl 3 rfl) ?_
  refine lv_iconst (v := 2) hx hb dX0_tellOne_13 (by decide) ?_
  refine lv_iadd hx hb dX0_tellOne_14 ?_
  obtain ⟨r15, q15, h⟩ := bnd1_inv h
  refine kVI (n := 1) (As := [.int (p2 + (2 : Int32))]) (rest := []) CF hl hK hP hD hS hA (c_X0_sign l D cI h0 h1 sg lz (p2 + (2 : Int32)) r15 q15) gX0_tellOne_X0_sign rfl dX0_tellOne_15 (by decide +kernel) ⟨⟨rfl, rfl⟩, ⟨Nat.le_of_ble_eq_true rfl, Nat.le_of_ble_eq_true rfl⟩, Nat.zero_le _, Nat.zero_le _⟩ (JN.ro [0, 1] rfl rfl) 0 rfl ⟨rfl, rfl⟩ rfl rfl (Nat.le_of_ble_eq_true rfl) (fun H locs hP hD hS => ?_)
  refine lv_bipush (v := 48) hx hb dX0_tellOne_18 (by decide) ?_
  refine lv_isub hx hb dX0_tellOne_20 ?_
  refine lv_istore (lv' := [(4, .int (r15 - (48 : Int32))), (3, .int (r4 - (48 : Int32))), (0, .ref h0), (1, .ref g0), (2, .int p2)]) hx hb dX0_tellOne_21 hl (by decide) rfl (fun ls hl => ?_)
  refine lv_aload_n hx hb dX0_tellOne_23 rfl (lv_at hl 2 rfl) ?_
  refine lv_iload_n hx hb dX0_tellOne_24 rfl (lv_at hl 4 rfl) ?_
  obtain ⟨r25, q25, h⟩ := bnd1_inv h
  refine kVI (n := 1) (As := [.int p2]) (rest := []) CF hl hK hP hD hS hA (c_X0_sign l D cI h0 h1 sg lz p2 r25 q25) gX0_tellOne_X0_sign rfl dX0_tellOne_25 (by decide +kernel) ⟨⟨rfl, rfl⟩, ⟨Nat.le_of_ble_eq_true rfl, Nat.le_of_ble_eq_true rfl⟩, Nat.zero_le _, Nat.zero_le _⟩ (JN.ro [0, 1] rfl rfl) 0 rfl ⟨rfl, rfl⟩ rfl rfl (Nat.le_of_ble_eq_true rfl) (fun H locs hP hD hS => ?_)
  by_cases s28_98 : r25 = 98
  · replace h := fx_ite_t s28_98 h
    refine lv_lookup (tgt := 121) hx hb dX0_tellOne_28 (by decide) (off := 93) (by rw [s28_98]; rfl) (by decide) ?_
    refine lv_aload_n hx hb dX0_tellOne_121 rfl (lv_at hl 3 rfl) ?_
    refine lv_iload_n hx hb dX0_tellOne_122 rfl (lv_at hl 1 rfl) ?_
    obtain ⟨r123, q123, h⟩ := bnd1_inv h
    refine kVI (n := 1) (As := [.int (r4 - (48 : Int32))]) (rest := []) CF hl hK hP hD hS hA (c_X2_isPerson l D cI g0 g1 g2 g3 g4 g5 g6 g7 v (r4 - (48 : Int32)) r123 q123) gX0_tellOne_X2_isPerson rfl dX0_tellOne_123 (by decide +kernel) ⟨⟨rfl, rfl⟩, ⟨Nat.le_of_ble_eq_true rfl, Nat.le_of_ble_eq_true rfl⟩, Nat.zero_le _, Nat.zero_le _⟩ (JN.ro [2, 3, 4, 5, 6, 7, 8, 9] rfl rfl) 2 rfl ⟨rfl, rfl⟩ rfl rfl (Nat.le_of_ble_eq_true rfl) (fun H locs hP hD hS => ?_)
    refine lv_if_eq (tgt := 145) hx hb dX0_tellOne_126 (by decide) (fun c126 => ?_) (fun c126 => ?_)
    · replace h := fx_ite_t c126 h
      refine lv_iconst (v := 0) hx hb dX0_tellOne_145 (by decide) ?_
      obtain ⟨rfl, rfl⟩ := ret2 h
      exact rI hQ hx hb hr hlocks hAe hP hS rfl rfl dX0_tellOne_146
    · replace h := fx_ite_f c126 h
      refine lv_aload_n hx hb dX0_tellOne_129 rfl (lv_at hl 3 rfl) ?_
      refine lv_iload hx hb dX0_tellOne_130 (lv_at hl 0 rfl) ?_
      refine lv_bipush (v := (-9)) hx hb dX0_tellOne_132 (by decide) ?_
      refine lv_iload_n hx hb dX0_tellOne_134 rfl (lv_at hl 1 rfl) ?_
      obtain ⟨r135, u135_v, q135, h⟩ := bnd2_inv h
      refine kSI (n := 4) (As := [.ref g0, .int (r15 - (48 : Int32)), .int (-9 : Int32), .int (r4 - (48 : Int32))]) (rest := []) CF hl hK hP hD hS hA (c_X0_tellBroken l D cI g0 g1 g2 g3 g4 g5 g6 g7 v (r15 - (48 : Int32)) (-9 : Int32) (r4 - (48 : Int32)) r135 u135_v q135) gX0_tellOne_X0_tellBroken rfl dX0_tellOne_135 (by decide +kernel) ⟨⟨rfl, rfl⟩, ⟨Nat.le_of_ble_eq_true rfl, Nat.le_of_ble_eq_true rfl⟩, Nat.zero_le _, Nat.zero_le _⟩ (JN.sub (wst' := (cL h0 h1 cI sg lz ++ cS g0 g1 g2 g3 g4 g5 g6 g7 cI u135_v)) [2, 3, 4, 5, 6, 7, 8, 9] rfl rfl rfl rfl) rfl rfl (Nat.le_of_ble_eq_true rfl) (fun H locs hP hD hS => ?_)
      replace hP : va_P D vwCl (cL h0 h1 cI sg lz ++ cS g0 g1 g2 g3 g4 g5 g6 g7 cI u135_v) H := hP
      replace hD : va_D A (cL h0 h1 cI sg lz ++ cS g0 g1 g2 g3 g4 g5 g6 g7 cI u135_v) := hD
      refine lv_if_eq (tgt := 145) hx hb dX0_tellOne_138 (by decide) (fun c138 => ?_) (fun c138 => ?_)
      · replace h := fx_ite_t c138 h
        refine lv_iconst (v := 0) hx hb dX0_tellOne_145 (by decide) ?_
        obtain ⟨rfl, rfl⟩ := ret2 h
        exact rI hQ hx hb hr hlocks hAe hP hS rfl rfl dX0_tellOne_146
      · replace h := fx_ite_f c138 h
        refine lv_iconst (v := 1) hx hb dX0_tellOne_141 (by decide) ?_
        refine lv_goto (tgt := 146) hx hb dX0_tellOne_142 (by decide) ?_
        obtain ⟨rfl, rfl⟩ := ret2 h
        exact rI hQ hx hb hr hlocks hAe hP hS rfl rfl dX0_tellOne_146
  replace h := fx_ite_f s28_98 h
  by_cases s28_110 : r25 = 110
  · replace h := fx_ite_t s28_110 h
    refine lv_lookup (tgt := 147) hx hb dX0_tellOne_28 (by decide) (off := 119) (by rw [s28_110]; rfl) (by decide) ?_
    refine lv_aload_n hx hb dX0_tellOne_147 rfl (lv_at hl 3 rfl) ?_
    refine lv_iload_n hx hb dX0_tellOne_148 rfl (lv_at hl 1 rfl) ?_
    refine lv_bipush (v := (-9)) hx hb dX0_tellOne_149 (by decide) ?_
    refine lv_bipush (v := (-8)) hx hb dX0_tellOne_151 (by decide) ?_
    obtain ⟨r153, u153_v, q153, h⟩ := bnd2_inv h
    refine kSI (n := 4) (As := [.ref g0, .int (r4 - (48 : Int32)), .int (-9 : Int32), .int (-8 : Int32)]) (rest := []) CF hl hK hP hD hS hA (c_X0_tellBroken l D cI g0 g1 g2 g3 g4 g5 g6 g7 v (r4 - (48 : Int32)) (-9 : Int32) (-8 : Int32) r153 u153_v q153) gX0_tellOne_X0_tellBroken rfl dX0_tellOne_153 (by decide +kernel) ⟨⟨rfl, rfl⟩, ⟨Nat.le_of_ble_eq_true rfl, Nat.le_of_ble_eq_true rfl⟩, Nat.zero_le _, Nat.zero_le _⟩ (JN.sub (wst' := (cL h0 h1 cI sg lz ++ cS g0 g1 g2 g3 g4 g5 g6 g7 cI u153_v)) [2, 3, 4, 5, 6, 7, 8, 9] rfl rfl rfl rfl) rfl rfl (Nat.le_of_ble_eq_true rfl) (fun H locs hP hD hS => ?_)
    replace hP : va_P D vwCl (cL h0 h1 cI sg lz ++ cS g0 g1 g2 g3 g4 g5 g6 g7 cI u153_v) H := hP
    replace hD : va_D A (cL h0 h1 cI sg lz ++ cS g0 g1 g2 g3 g4 g5 g6 g7 cI u153_v) := hD
    obtain ⟨z156, h⟩ := zch_inv h
    obtain ⟨rfl, rfl⟩ := ret2 h
    exact rI hQ hx hb hr hlocks hAe hP hS (fx_zn z156) rfl dX0_tellOne_156
  replace h := fx_ite_f s28_110 h
  by_cases s28_112 : r25 = 112
  · replace h := fx_ite_t s28_112 h
    refine lv_lookup (tgt := 88) hx hb dX0_tellOne_28 (by decide) (off := 60) (by rw [s28_112]; rfl) (by decide) ?_
    refine lv_aload_n hx hb dX0_tellOne_88 rfl (lv_at hl 3 rfl) ?_
    refine lv_iload_n hx hb dX0_tellOne_89 rfl (lv_at hl 1 rfl) ?_
    obtain ⟨r90, u90_v, q90, h⟩ := bnd2_inv h
    refine kVI (n := 1) (As := [.int (r4 - (48 : Int32))]) (rest := []) CF hl hK hP hD hS hA (c_X2_addPerson l D cI g0 g1 g2 g3 g4 g5 g6 g7 v (r4 - (48 : Int32)) r90 u90_v q90) gX0_tellOne_X2_addPerson rfl dX0_tellOne_90 (by decide +kernel) ⟨⟨rfl, rfl⟩, ⟨Nat.le_of_ble_eq_true rfl, Nat.le_of_ble_eq_true rfl⟩, Nat.zero_le _, Nat.zero_le _⟩ (JN.sub (wst' := (cL h0 h1 cI sg lz ++ cS g0 g1 g2 g3 g4 g5 g6 g7 cI u90_v)) [2, 3, 4, 5, 6, 7, 8, 9] rfl rfl rfl rfl) 2 rfl ⟨rfl, rfl⟩ rfl rfl (Nat.le_of_ble_eq_true rfl) (fun H locs hP hD hS => ?_)
    replace hP : va_P D vwCl (cL h0 h1 cI sg lz ++ cS g0 g1 g2 g3 g4 g5 g6 g7 cI u90_v) H := hP
    replace hD : va_D A (cL h0 h1 cI sg lz ++ cS g0 g1 g2 g3 g4 g5 g6 g7 cI u90_v) := hD
    obtain ⟨z93, h⟩ := zch_inv h
    obtain ⟨rfl, rfl⟩ := ret2 h
    exact rI hQ hx hb hr hlocks hAe hP hS (fx_zn z93) rfl dX0_tellOne_93
  replace h := fx_ite_f s28_112 h
  by_cases s28_115 : r25 = 115
  · replace h := fx_ite_t s28_115 h
    refine lv_lookup (tgt := 157) hx hb dX0_tellOne_28 (by decide) (off := 129) (by rw [s28_115]; rfl) (by decide) ?_
    refine lv_aload_n hx hb dX0_tellOne_157 rfl (lv_at hl 3 rfl) ?_
    refine lv_iload_n hx hb dX0_tellOne_158 rfl (lv_at hl 1 rfl) ?_
    obtain ⟨r159, q159, h⟩ := bnd1_inv h
    refine kVI (n := 1) (As := [.int (r4 - (48 : Int32))]) (rest := []) CF hl hK hP hD hS hA (c_X2_isPerson l D cI g0 g1 g2 g3 g4 g5 g6 g7 v (r4 - (48 : Int32)) r159 q159) gX0_tellOne_X2_isPerson rfl dX0_tellOne_159 (by decide +kernel) ⟨⟨rfl, rfl⟩, ⟨Nat.le_of_ble_eq_true rfl, Nat.le_of_ble_eq_true rfl⟩, Nat.zero_le _, Nat.zero_le _⟩ (JN.ro [2, 3, 4, 5, 6, 7, 8, 9] rfl rfl) 2 rfl ⟨rfl, rfl⟩ rfl rfl (Nat.le_of_ble_eq_true rfl) (fun H locs hP hD hS => ?_)
    refine lv_if_eq (tgt := 181) hx hb dX0_tellOne_162 (by decide) (fun c162 => ?_) (fun c162 => ?_)
    · replace h := fx_ite_t c162 h
      refine lv_iconst (v := 0) hx hb dX0_tellOne_181 (by decide) ?_
      obtain ⟨rfl, rfl⟩ := ret2 h
      exact rI hQ hx hb hr hlocks hAe hP hS rfl rfl dX0_tellOne_182
    · replace h := fx_ite_f c162 h
      refine lv_aload_n hx hb dX0_tellOne_165 rfl (lv_at hl 3 rfl) ?_
      refine lv_iload hx hb dX0_tellOne_166 (lv_at hl 0 rfl) ?_
      refine lv_bipush (v := (-8)) hx hb dX0_tellOne_168 (by decide) ?_
      refine lv_iload_n hx hb dX0_tellOne_170 rfl (lv_at hl 1 rfl) ?_
      obtain ⟨r171, u171_v, q171, h⟩ := bnd2_inv h
      refine kSI (n := 4) (As := [.ref g0, .int (r15 - (48 : Int32)), .int (-8 : Int32), .int (r4 - (48 : Int32))]) (rest := []) CF hl hK hP hD hS hA (c_X0_tellBroken l D cI g0 g1 g2 g3 g4 g5 g6 g7 v (r15 - (48 : Int32)) (-8 : Int32) (r4 - (48 : Int32)) r171 u171_v q171) gX0_tellOne_X0_tellBroken rfl dX0_tellOne_171 (by decide +kernel) ⟨⟨rfl, rfl⟩, ⟨Nat.le_of_ble_eq_true rfl, Nat.le_of_ble_eq_true rfl⟩, Nat.zero_le _, Nat.zero_le _⟩ (JN.sub (wst' := (cL h0 h1 cI sg lz ++ cS g0 g1 g2 g3 g4 g5 g6 g7 cI u171_v)) [2, 3, 4, 5, 6, 7, 8, 9] rfl rfl rfl rfl) rfl rfl (Nat.le_of_ble_eq_true rfl) (fun H locs hP hD hS => ?_)
      replace hP : va_P D vwCl (cL h0 h1 cI sg lz ++ cS g0 g1 g2 g3 g4 g5 g6 g7 cI u171_v) H := hP
      replace hD : va_D A (cL h0 h1 cI sg lz ++ cS g0 g1 g2 g3 g4 g5 g6 g7 cI u171_v) := hD
      refine lv_if_eq (tgt := 181) hx hb dX0_tellOne_174 (by decide) (fun c174 => ?_) (fun c174 => ?_)
      · replace h := fx_ite_t c174 h
        refine lv_iconst (v := 0) hx hb dX0_tellOne_181 (by decide) ?_
        obtain ⟨rfl, rfl⟩ := ret2 h
        exact rI hQ hx hb hr hlocks hAe hP hS rfl rfl dX0_tellOne_182
      · replace h := fx_ite_f c174 h
        refine lv_iconst (v := 1) hx hb dX0_tellOne_177 (by decide) ?_
        refine lv_goto (tgt := 182) hx hb dX0_tellOne_178 (by decide) ?_
        obtain ⟨rfl, rfl⟩ := ret2 h
        exact rI hQ hx hb hr hlocks hAe hP hS rfl rfl dX0_tellOne_182
  replace h := fx_ite_f s28_115 h
  by_cases s28_116 : r25 = 116
  · replace h := fx_ite_t s28_116 h
    refine lv_lookup (tgt := 94) hx hb dX0_tellOne_28 (by decide) (off := 66) (by rw [s28_116]; rfl) (by decide) ?_
    refine lv_aload_n hx hb dX0_tellOne_94 rfl (lv_at hl 3 rfl) ?_
    refine lv_aload_n hx hb dX0_tellOne_95 rfl (lv_at hl 2 rfl) ?_
    refine lv_iload_n hx hb dX0_tellOne_96 rfl (lv_at hl 4 rfl) ?_
    refine lv_iconst (v := 1) hx hb dX0_tellOne_97 (by decide) ?_
    refine lv_iadd hx hb dX0_tellOne_98 ?_
    obtain ⟨r99, q99, h⟩ := bnd1_inv h
    refine kVI (n := 1) (As := [.int (p2 + (1 : Int32))]) (rest := [.ref g0]) CF hl hK hP hD hS hA (c_X0_sign l D cI h0 h1 sg lz (p2 + (1 : Int32)) r99 q99) gX0_tellOne_X0_sign rfl dX0_tellOne_99 (by decide +kernel) ⟨⟨rfl, rfl⟩, ⟨Nat.le_of_ble_eq_true rfl, Nat.le_of_ble_eq_true rfl⟩, Nat.zero_le _, Nat.zero_le _⟩ (JN.ro [0, 1] rfl rfl) 0 rfl ⟨rfl, rfl⟩ rfl rfl (Nat.le_of_ble_eq_true rfl) (fun H locs hP hD hS => ?_)
    obtain ⟨r102, q102, h⟩ := bnd1_inv h
    refine kSI (n := 1) (As := [.int r99]) (rest := [.ref g0]) CF hl hK hP hD hS hA (c_X0_kindOf l D cI   r99 r102 q102) gX0_tellOne_X0_kindOf rfl dX0_tellOne_102 (by decide +kernel) ⟨⟨rfl, rfl⟩, ⟨Nat.le_of_ble_eq_true rfl, Nat.le_of_ble_eq_true rfl⟩, Nat.zero_le _, Nat.zero_le _⟩ (JN.ro [] rfl rfl) rfl rfl (Nat.le_of_ble_eq_true rfl) (fun H locs hP hD hS => ?_)
    refine lv_iload hx hb dX0_tellOne_105 (lv_at hl 0 rfl) ?_
    refine lv_aload_n hx hb dX0_tellOne_107 rfl (lv_at hl 2 rfl) ?_
    refine lv_iload_n hx hb dX0_tellOne_108 rfl (lv_at hl 4 rfl) ?_
    refine lv_iconst (v := 3) hx hb dX0_tellOne_109 (by decide) ?_
    refine lv_iadd hx hb dX0_tellOne_110 ?_
    obtain ⟨r111, q111, h⟩ := bnd1_inv h
    refine kVI (n := 1) (As := [.int (p2 + (3 : Int32))]) (rest := [.int (r15 - (48 : Int32)), .int r102, .ref g0]) CF hl hK hP hD hS hA (c_X0_sign l D cI h0 h1 sg lz (p2 + (3 : Int32)) r111 q111) gX0_tellOne_X0_sign rfl dX0_tellOne_111 (by decide +kernel) ⟨⟨rfl, rfl⟩, ⟨Nat.le_of_ble_eq_true rfl, Nat.le_of_ble_eq_true rfl⟩, Nat.zero_le _, Nat.zero_le _⟩ (JN.ro [0, 1] rfl rfl) 0 rfl ⟨rfl, rfl⟩ rfl rfl (Nat.le_of_ble_eq_true rfl) (fun H locs hP hD hS => ?_)
    refine lv_bipush (v := 48) hx hb dX0_tellOne_114 (by decide) ?_
    refine lv_isub hx hb dX0_tellOne_116 ?_
    obtain ⟨r117, u117_v, q117, h⟩ := bnd2_inv h
    refine kVI (n := 3) (As := [.int r102, .int (r15 - (48 : Int32)), .int (r111 - (48 : Int32))]) (rest := []) CF hl hK hP hD hS hA (c_X2_addThing l D cI g0 g1 g2 g3 g4 g5 g6 g7 v r102 (r15 - (48 : Int32)) (r111 - (48 : Int32)) r117 u117_v q117) gX0_tellOne_X2_addThing rfl dX0_tellOne_117 (by decide +kernel) ⟨⟨rfl, rfl⟩, ⟨Nat.le_of_ble_eq_true rfl, Nat.le_of_ble_eq_true rfl⟩, Nat.zero_le _, Nat.zero_le _⟩ (JN.sub (wst' := (cL h0 h1 cI sg lz ++ cS g0 g1 g2 g3 g4 g5 g6 g7 cI u117_v)) [2, 3, 4, 5, 6, 7, 8, 9] rfl rfl rfl rfl) 2 rfl ⟨rfl, rfl⟩ rfl rfl (Nat.le_of_ble_eq_true rfl) (fun H locs hP hD hS => ?_)
    replace hP : va_P D vwCl (cL h0 h1 cI sg lz ++ cS g0 g1 g2 g3 g4 g5 g6 g7 cI u117_v) H := hP
    replace hD : va_D A (cL h0 h1 cI sg lz ++ cS g0 g1 g2 g3 g4 g5 g6 g7 cI u117_v) := hD
    obtain ⟨z120, h⟩ := zch_inv h
    obtain ⟨rfl, rfl⟩ := ret2 h
    exact rI hQ hx hb hr hlocks hAe hP hS (fx_zn z120) rfl dX0_tellOne_120
  replace h := fx_ite_f s28_116 h
  by_cases s28_119 : r25 = 119
  · replace h := fx_ite_t s28_119 h
    refine lv_lookup (tgt := 183) hx hb dX0_tellOne_28 (by decide) (off := 155) (by rw [s28_119]; rfl) (by decide) ?_
    refine lv_aload_n hx hb dX0_tellOne_183 rfl (lv_at hl 3 rfl) ?_
    refine lv_iload_n hx hb dX0_tellOne_184 rfl (lv_at hl 1 rfl) ?_
    refine lv_iload hx hb dX0_tellOne_185 (lv_at hl 0 rfl) ?_
    obtain ⟨r187, u187_v, q187, h⟩ := bnd2_inv h
    refine kSI (n := 3) (As := [.ref g0, .int (r4 - (48 : Int32)), .int (r15 - (48 : Int32))]) (rest := []) CF hl hK hP hD hS hA (c_X0_tellWear l D cI g0 g1 g2 g3 g4 g5 g6 g7 v (r4 - (48 : Int32)) (r15 - (48 : Int32)) r187 u187_v q187) gX0_tellOne_X0_tellWear rfl dX0_tellOne_187 (by decide +kernel) ⟨⟨rfl, rfl⟩, ⟨Nat.le_of_ble_eq_true rfl, Nat.le_of_ble_eq_true rfl⟩, Nat.zero_le _, Nat.zero_le _⟩ (JN.sub (wst' := (cL h0 h1 cI sg lz ++ cS g0 g1 g2 g3 g4 g5 g6 g7 cI u187_v)) [2, 3, 4, 5, 6, 7, 8, 9] rfl rfl rfl rfl) rfl rfl (Nat.le_of_ble_eq_true rfl) (fun H locs hP hD hS => ?_)
    replace hP : va_P D vwCl (cL h0 h1 cI sg lz ++ cS g0 g1 g2 g3 g4 g5 g6 g7 cI u187_v) H := hP
    replace hD : va_D A (cL h0 h1 cI sg lz ++ cS g0 g1 g2 g3 g4 g5 g6 g7 cI u187_v) := hD
    obtain ⟨z190, h⟩ := zch_inv h
    obtain ⟨rfl, rfl⟩ := ret2 h
    exact rI hQ hx hb hr hlocks hAe hP hS (fx_zn z190) rfl dX0_tellOne_190
  replace h := fx_ite_f s28_119 h
  refine lv_lookup (tgt := 191) hx hb dX0_tellOne_28 (by decide) (off := 163) (by have a_s28_98 : Int32.toInt r25 ≠ 98 := fx_toInt_ne s28_98; have a_s28_110 : Int32.toInt r25 ≠ 110 := fx_toInt_ne s28_110; have a_s28_112 : Int32.toInt r25 ≠ 112 := fx_toInt_ne s28_112; have a_s28_115 : Int32.toInt r25 ≠ 115 := fx_toInt_ne s28_115; have a_s28_116 : Int32.toInt r25 ≠ 116 := fx_toInt_ne s28_116; have a_s28_119 : Int32.toInt r25 ≠ 119 := fx_toInt_ne s28_119; show Op.lookupswitch.offset [(98, 93), (110, 119), (112, 60), (115, 129), (116, 66), (119, 155)] 163 (Int32.toInt r25) = 163; simp only [Op.lookupswitch.offset]; rw [if_neg (Ne.symm a_s28_98), if_neg (Ne.symm a_s28_110), if_neg (Ne.symm a_s28_112), if_neg (Ne.symm a_s28_115), if_neg (Ne.symm a_s28_116), if_neg (Ne.symm a_s28_119)]) (by decide) ?_
  refine lv_bipush (v := 10) hx hb dX0_tellOne_191 (by decide) ?_
  refine lv_iload_n hx hb dX0_tellOne_193 rfl (lv_at hl 1 rfl) ?_
  refine lv_imul hx hb dX0_tellOne_194 ?_
  refine lv_iload hx hb dX0_tellOne_195 (lv_at hl 0 rfl) ?_
  refine lv_iadd hx hb dX0_tellOne_197 ?_
  refine lv_istore (lv' := [(5, .int (((10 : Int32) * (r4 - (48 : Int32))) + (r15 - (48 : Int32)))), (4, .int (r15 - (48 : Int32))), (3, .int (r4 - (48 : Int32))), (0, .ref h0), (1, .ref g0), (2, .int p2)]) hx hb dX0_tellOne_198 hl (by decide) rfl (fun ls hl => ?_)
  refine lv_iload hx hb dX0_tellOne_200 (lv_at hl 0 rfl) ?_
  refine lv_iconst (v := 1) hx hb dX0_tellOne_202 (by decide) ?_
  refine lv_icmp_lt (tgt := 226) hx hb dX0_tellOne_203 (by decide) (fun c203 => ?_) (fun c203 => ?_)
  · replace h := fx_ite_t c203 h
    refine lv_iconst (v := 0) hx hb dX0_tellOne_226 (by decide) ?_
    obtain ⟨rfl, rfl⟩ := ret2 h
    exact rI hQ hx hb hr hlocks hAe hP hS rfl rfl dX0_tellOne_227
  · replace h := fx_ite_f c203 h
    refine lv_iload hx hb dX0_tellOne_206 (lv_at hl 0 rfl) ?_
    refine lv_bipush (v := 60) hx hb dX0_tellOne_208 (by decide) ?_
    refine lv_icmp_gt (tgt := 226) hx hb dX0_tellOne_210 (by decide) (fun c210 => ?_) (fun c210 => ?_)
    · replace h := fx_ite_t c210 h
      refine lv_iconst (v := 0) hx hb dX0_tellOne_226 (by decide) ?_
      obtain ⟨rfl, rfl⟩ := ret2 h
      exact rI hQ hx hb hr hlocks hAe hP hS rfl rfl dX0_tellOne_227
    · replace h := fx_ite_f c210 h
      refine lv_aload_n hx hb dX0_tellOne_213 rfl (lv_at hl 4 rfl) ?_
      refine va_get (D := D) (ci := 2) (v := .int (sDa v)) (C := RX2) (T := TX2) (N := 10) hx hb hts i2 hown hK hP 2 rfl rfl 9 (by decide) f61 (fun _ h9 => h9) rfl dX0_tellOne_214 ?_
      refine lv_iload hx hb dX0_tellOne_217 (lv_at hl 0 rfl) ?_
      refine lv_iadd hx hb dX0_tellOne_219 ?_
      refine lv_sipush (v := 999) hx hb dX0_tellOne_220 (by decide) ?_
      refine lv_icmp_le (tgt := 228) hx hb dX0_tellOne_223 (by decide) (fun c223 => ?_) (fun c223 => ?_)
      · replace h := fx_ite_t c223 h
        refine lv_aload_n hx hb dX0_tellOne_228 rfl (lv_at hl 4 rfl) ?_
        refine lv_iload hx hb dX0_tellOne_229 (lv_at hl 0 rfl) ?_
        refine lv_iconst (v := 1) hx hb dX0_tellOne_231 (by decide) ?_
        refine lv_bipush (v := (-9)) hx hb dX0_tellOne_232 (by decide) ?_
        obtain ⟨u234_v, q234, h⟩ := bnd1_inv h
        refine kVV (n := 3) (As := [.int (((10 : Int32) * (r4 - (48 : Int32))) + (r15 - (48 : Int32))), .int (1 : Int32), .int (-9 : Int32)]) (rest := []) CF hl hK hP hD hS hA (c_X2_pass l D cI g0 g1 g2 g3 g4 g5 g6 g7 v (((10 : Int32) * (r4 - (48 : Int32))) + (r15 - (48 : Int32))) (1 : Int32) (-9 : Int32) u234_v q234) gX0_tellOne_X2_pass rfl dX0_tellOne_234 (by decide +kernel) ⟨⟨rfl, rfl⟩, ⟨Nat.le_of_ble_eq_true rfl, Nat.le_of_ble_eq_true rfl⟩, Nat.zero_le _, Nat.zero_le _⟩ (JN.sub (wst' := (cL h0 h1 cI sg lz ++ cS g0 g1 g2 g3 g4 g5 g6 g7 cI u234_v)) [2, 3, 4, 5, 6, 7, 8, 9] rfl rfl rfl rfl) 2 rfl ⟨rfl, rfl⟩ rfl rfl (Nat.le_of_ble_eq_true rfl) (fun H locs hP hD hS => ?_)
        replace hP : va_P D vwCl (cL h0 h1 cI sg lz ++ cS g0 g1 g2 g3 g4 g5 g6 g7 cI u234_v) H := hP
        replace hD : va_D A (cL h0 h1 cI sg lz ++ cS g0 g1 g2 g3 g4 g5 g6 g7 cI u234_v) := hD
        refine lv_iconst (v := 1) hx hb dX0_tellOne_237 (by decide) ?_
        obtain ⟨rfl, rfl⟩ := ret2 h
        exact rI hQ hx hb hr hlocks hAe hP hS rfl rfl dX0_tellOne_238
      · replace h := fx_ite_f c223 h
        refine lv_iconst (v := 0) hx hb dX0_tellOne_226 (by decide) ?_
        obtain ⟨rfl, rfl⟩ := ret2 h
        exact rI hQ hx hb hr hlocks hAe hP hS rfl rfl dX0_tellOne_227
/-! X0_tellTo -/
set_option maxHeartbeats 4000000 in
set_option maxRecDepth 100000 in
theorem c_X0_tellTo (l : Launch) (D : va_G) (cI : ClassId) (h0 h1 g0 g1 g2 g3 g4 g5 g6 g7 : Nat) (sg : (Nat → Int32)) (lz : Int32) (v : SV)  (res : Int32) (u_v : SV) (h : M_X0_tellTo sg lz v = some (res, u_v)) : mI l yX0_tellTo wsX0_tellTo { frames := 6, cells := 0, slots := 0, locals := 140 } D cI [.ref h0, .ref g0] (cL h0 h1 cI sg lz ++ cS g0 g1 g2 g3 g4 g5 g6 g7 cI v) (cL h0 h1 cI sg lz ++ cS g0 g1 g2 g3 g4 g5 g6 g7 cI u_v) res := by
  intro sz
  refine mStart (cc := cX0_tellTo) (maxL := 4) (ret := (some .int)) (own := RX0) (by decide) rfl rfl (Nat.le_of_ble_eq_true rfl) (lv := [(0, .ref h0), (1, .ref g0)]) rfl ?_
  intro p e s m args below meth c A ls Q H locs CF hr hlocks hK hP hD hS hA hAe hl hQ
  obtain ⟨hx, hb, hml, hown, hts⟩ := id CF
  have f15 := hts (.fieldLink RX0 15 "MendAnothersBreaking$Letters" "size" "I") (List.mem_of_getElem? (i := 1) rfl)
  have i0 : ∀ w ∈ wsX00, w ∈ wsX0_tellTo := fun w h => List.mem_cons_of_mem _ (List.mem_append_left _ (List.mem_append_right _ h))
  have L4 : ∀ (n : Nat)  (x2 : Int32) (x3 : Int32) (v : SV), fuel (fun _ _ _ => none) (B_X0_tellTo_4 sg lz) n x2 x3 v = some (res, u_v) → 
      ∀ (H : Heap) (locs : List Loc) (ls : Array Slot), va_P D vwCl (cL h0 h1 cI sg lz ++ cS g0 g1 g2 g3 g4 g5 g6 g7 cI v) H → va_D A (cL h0 h1 cI sg lz ++ cS g0 g1 g2 g3 g4 g5 g6 g7 cI v) → va_S A s.heap H locs → lv_has ls 4 [(0, .ref h0), (1, .ref g0), (2, .int x2), (3, .int x3)] → W p l e { frames := 6, cells := 0, slots := 0, locals := 140 } s m args below meth c H locs 0 0 Q (F0 m 4 ls []) := by
    intro n
    induction n with
    | zero =>
      intro x2 x3 v h
      exact nomatch (show (none : Option (Int32 × SV)) = some (res, u_v) from h)
    | succ n ih =>
      intro x2 x3 v h  H locs ls hP hD hS hl
      replace h : B_X0_tellTo_4 sg lz (fuel (fun _ _ _ => none) (B_X0_tellTo_4 sg lz) n) x2 x3 v = some (res, u_v) := h
      unfold B_X0_tellTo_4 at h
      refine lv_iload_n hx hb dX0_tellTo_4 rfl (lv_at hl 3 rfl) ?_
      refine lv_aload_n hx hb dX0_tellTo_5 rfl (lv_at hl 0 rfl) ?_
      refine va_get (D := D) (ci := 0) (v := .int lz) (C := RX0) (T := TX0) (N := 2) hx hb hts i0 hown hK hP 0 rfl rfl 1 (by decide) f15 (fun _ h9 => h9) rfl dX0_tellTo_6 ?_
      refine lv_icmp_ge (tgt := 46) hx hb dX0_tellTo_9 (by decide) (fun c9 => ?_) (fun c9 => ?_)
      · replace h := fx_ite_t c9 h
        refine lv_iload_n hx hb dX0_tellTo_46 rfl (lv_at hl 2 rfl) ?_
        obtain ⟨rfl, rfl⟩ := ret2 h
        exact rI hQ hx hb hr hlocks hAe hP hS rfl rfl dX0_tellTo_47
      · replace h := fx_ite_f c9 h
        refine lv_aload_n hx hb dX0_tellTo_12 rfl (lv_at hl 0 rfl) ?_
        refine lv_aload_n hx hb dX0_tellTo_13 rfl (lv_at hl 1 rfl) ?_
        refine lv_iload_n hx hb dX0_tellTo_14 rfl (lv_at hl 3 rfl) ?_
        obtain ⟨r15, u15_v, q15, h⟩ := bnd2_inv h
        refine kVI (n := 2) (As := [.ref g0, .int x3]) (rest := []) CF hl hK hP hD hS hA (c_X0_tellOne l D cI h0 h1 g0 g1 g2 g3 g4 g5 g6 g7 sg lz v x3 r15 u15_v q15) gX0_tellTo_X0_tellOne rfl dX0_tellTo_15 (by decide +kernel) ⟨⟨rfl, rfl⟩, ⟨Nat.le_of_ble_eq_true rfl, Nat.le_of_ble_eq_true rfl⟩, Nat.zero_le _, Nat.zero_le _⟩ (JN.whole (w1 := (cL h0 h1 cI sg lz ++ cS g0 g1 g2 g3 g4 g5 g6 g7 cI u15_v)) rfl) 0 rfl ⟨rfl, rfl⟩ rfl rfl (Nat.le_of_ble_eq_true rfl) (fun H locs hP hD hS => ?_)
        replace hP : va_P D vwCl (cL h0 h1 cI sg lz ++ cS g0 g1 g2 g3 g4 g5 g6 g7 cI u15_v) H := hP
        replace hD : va_D A (cL h0 h1 cI sg lz ++ cS g0 g1 g2 g3 g4 g5 g6 g7 cI u15_v) := hD
        refine lv_if_ne (tgt := 27) hx hb dX0_tellTo_18 (by decide) (fun c18 => ?_) (fun c18 => ?_)
        · replace h := fx_ite_f c18 h
          refine lv_iinc (v := (x2 + 1)) (lv' := [(2, .int (x2 + 1)), (0, .ref h0), (1, .ref g0), (3, .int x3)]) hx hb dX0_tellTo_27 hl (k := 2) rfl (by first | rfl | decide) (by decide) rfl (fun ls hl => ?_)
          refine lv_iload_n hx hb dX0_tellTo_30 rfl (lv_at hl 3 rfl) ?_
          refine lv_aload_n hx hb dX0_tellTo_31 rfl (lv_at hl 1 rfl) ?_
          refine lv_iload_n hx hb dX0_tellTo_32 rfl (lv_at hl 3 rfl) ?_
          obtain ⟨r33, q33, h⟩ := bnd1_inv h
          refine kVI (n := 1) (As := [.int x3]) (rest := [.int x3]) CF hl hK hP hD hS hA (c_X0_sign l D cI h0 h1 sg lz x3 r33 q33) gX0_tellTo_X0_sign rfl dX0_tellTo_33 (by decide +kernel) ⟨⟨rfl, rfl⟩, ⟨Nat.le_of_ble_eq_true rfl, Nat.le_of_ble_eq_true rfl⟩, Nat.zero_le _, Nat.zero_le _⟩ (JN.ro [0, 1] rfl rfl) 0 rfl ⟨rfl, rfl⟩ rfl rfl (Nat.le_of_ble_eq_true rfl) (fun H locs hP hD hS => ?_)
          obtain ⟨r36, q36, h⟩ := bnd1_inv h
          refine kSI (n := 1) (As := [.int r33]) (rest := [.int x3]) CF hl hK hP hD hS hA (c_X0_partsBehind l D cI   r33 r36 q36) gX0_tellTo_X0_partsBehind rfl dX0_tellTo_36 (by decide +kernel) ⟨⟨rfl, rfl⟩, ⟨Nat.le_of_ble_eq_true rfl, Nat.le_of_ble_eq_true rfl⟩, Nat.zero_le _, Nat.zero_le _⟩ (JN.ro [] rfl rfl) rfl rfl (Nat.le_of_ble_eq_true rfl) (fun H locs hP hD hS => ?_)
          refine lv_iconst (v := 2) hx hb dX0_tellTo_39 (by decide) ?_
          refine lv_iadd hx hb dX0_tellTo_40 ?_
          refine lv_iadd hx hb dX0_tellTo_41 ?_
          refine lv_istore_n (lv' := [(3, .int (x3 + (r36 + (2 : Int32)))), (2, .int (x2 + 1)), (0, .ref h0), (1, .ref g0)]) hx hb dX0_tellTo_42 rfl hl (by decide) rfl (fun ls hl => ?_)
          refine lv_goto (tgt := 4) hx hb dX0_tellTo_43 (by decide) ?_
          exact ih _ _ _ h  _ _ _ hP hD hS (lv_sub hl [2, 3, 1, 0] rfl)
        · replace h := fx_ite_t c18 h
          refine lv_sipush (v := (-2000)) hx hb dX0_tellTo_21 (by decide) ?_
          refine lv_iload_n hx hb dX0_tellTo_24 rfl (lv_at hl 3 rfl) ?_
          refine lv_isub hx hb dX0_tellTo_25 ?_
          obtain ⟨rfl, rfl⟩ := ret2 h
          exact rI hQ hx hb hr hlocks hAe hP hS rfl rfl dX0_tellTo_26
  unfold M_X0_tellTo at h
  refine lv_iconst (v := 0) hx hb dX0_tellTo_0 (by decide) ?_
  refine lv_istore_n (lv' := [(2, .int (0 : Int32)), (0, .ref h0), (1, .ref g0)]) hx hb dX0_tellTo_1 rfl hl (by decide) rfl (fun ls hl => ?_)
  refine lv_iconst (v := 0) hx hb dX0_tellTo_2 (by decide) ?_
  refine lv_istore_n (lv' := [(3, .int (0 : Int32)), (2, .int (0 : Int32)), (0, .ref h0), (1, .ref g0)]) hx hb dX0_tellTo_3 rfl hl (by decide) rfl (fun ls hl => ?_)
  exact L4 FU _ _ _ h  _ _ _ hP hD hS (lv_sub hl [2, 3, 1, 0] rfl)
/-! X1_isFree -/
set_option maxHeartbeats 4000000 in
set_option maxRecDepth 100000 in
theorem c_X1_isFree (l : Launch) (D : va_G) (cI : ClassId) (h0 h1 h2 h3 h4 h5 h6 h7 : Nat) (v : SV) (p1 : Int32) (p2 : Int32) (p3 : Int32) (res : Int32) (h : M_X1_isFree v p1 p2 p3 = some res) : mI l yX1_isFree wsX1_isFree { frames := 3, cells := 0, slots := 0, locals := 68 } D cI [.ref h0, .int p1, .int p2, .int p3] (cS h0 h1 h2 h3 h4 h5 h6 h7 cI v) (cS h0 h1 h2 h3 h4 h5 h6 h7 cI v) res := by
  intro sz
  refine mStart (cc := cX1_isFree) (maxL := 4) (ret := (some .boolean)) (own := RX1) (by decide) rfl rfl (Nat.le_of_ble_eq_true rfl) (lv := [(0, .ref h0), (1, .int p1), (2, .int p2), (3, .int p3)]) rfl ?_
  intro p e s m args below meth c A ls Q H locs CF hr hlocks hK hP hD hS hA hAe hl hQ
  obtain ⟨hx, hb, hml, hown, hts⟩ := id CF
  unfold M_X1_isFree at h
  refine lv_iload_n hx hb dX1_isFree_0 rfl (lv_at hl 2 rfl) ?_
  refine lv_iconst (v := 1) hx hb dX1_isFree_1 (by decide) ?_
  refine lv_iload_n hx hb dX1_isFree_2 rfl (lv_at hl 1 rfl) ?_
  refine lv_ishl hx hb dX1_isFree_3 ?_
  refine lv_iand hx hb dX1_isFree_4 ?_
  refine lv_if_ne (tgt := 21) hx hb dX1_isFree_5 (by decide) (fun c5 => ?_) (fun c5 => ?_)
  · replace h := fx_ite_f c5 h
    refine lv_iconst (v := 0) hx hb dX1_isFree_21 (by decide) ?_
    obtain rfl := ret1 h
    exact rI hQ hx hb hr hlocks hAe hP hS rfl rfl dX1_isFree_22
  · replace h := fx_ite_t c5 h
    refine lv_aload_n hx hb dX1_isFree_8 rfl (lv_at hl 0 rfl) ?_
    refine lv_iload_n hx hb dX1_isFree_9 rfl (lv_at hl 1 rfl) ?_
    refine lv_iload_n hx hb dX1_isFree_10 rfl (lv_at hl 3 rfl) ?_
    obtain ⟨r11, q11, h⟩ := bnd1_inv h
    refine kVI (n := 2) (As := [.int p1, .int p3]) (rest := []) CF hl hK hP hD hS hA (c_X2_mayMend l D cI h0 h1 h2 h3 h4 h5 h6 h7 v p1 p3 r11 q11) gX1_isFree_X2_mayMend rfl dX1_isFree_11 (by decide +kernel) ⟨⟨rfl, rfl⟩, ⟨Nat.le_of_ble_eq_true rfl, Nat.le_of_ble_eq_true rfl⟩, Nat.zero_le _, Nat.zero_le _⟩ (JN.whole rfl) 0 rfl ⟨rfl, rfl⟩ rfl rfl (Nat.le_of_ble_eq_true rfl) (fun H locs hP hD hS => ?_)
    replace hP : va_P D vwCl (cS h0 h1 h2 h3 h4 h5 h6 h7 cI v) H := hP
    replace hD : va_D A (cS h0 h1 h2 h3 h4 h5 h6 h7 cI v) := hD
    refine lv_if_eq (tgt := 21) hx hb dX1_isFree_14 (by decide) (fun c14 => ?_) (fun c14 => ?_)
    · replace h := fx_ite_t c14 h
      refine lv_iconst (v := 0) hx hb dX1_isFree_21 (by decide) ?_
      obtain rfl := ret1 h
      exact rI hQ hx hb hr hlocks hAe hP hS rfl rfl dX1_isFree_22
    · replace h := fx_ite_f c14 h
      refine lv_iconst (v := 1) hx hb dX1_isFree_17 (by decide) ?_
      refine lv_goto (tgt := 22) hx hb dX1_isFree_18 (by decide) ?_
      obtain rfl := ret1 h
      exact rI hQ hx hb hr hlocks hAe hP hS rfl rfl dX1_isFree_22
/-! X1_mostFrom -/
set_option maxHeartbeats 4000000 in
set_option maxRecDepth 100000 in
theorem c_X1_mostFrom (l : Launch) (D : va_G) (cI : ClassId) (h0 h1 g0 g1 g2 g3 g4 g5 g6 g7 : Nat) (be : (Nat → Int32)) (v : SV) (p2 : Int32) (p3 : Int32) (res : Int32) (h : M_X1_mostFrom be v p2 p3 = some res) : mI l yX1_mostFrom wsX1_mostFrom { frames := 4, cells := 0, slots := 0, locals := 91 } D cI [.ref h0, .ref g0, .int p2, .int p3] (cG h0 h1 cI be ++ cS g0 g1 g2 g3 g4 g5 g6 g7 cI v) (cG h0 h1 cI be ++ cS g0 g1 g2 g3 g4 g5 g6 g7 cI v) res := by
  intro sz
  refine mStart (cc := cX1_mostFrom) (maxL := 6) (ret := (some .int)) (own := RX1) (by decide) rfl rfl (Nat.le_of_ble_eq_true rfl) (lv := [(0, .ref h0), (1, .ref g0), (2, .int p2), (3, .int p3)]) rfl ?_
  intro p e s m args below meth c A ls Q H locs CF hr hlocks hK hP hD hS hA hAe hl hQ
  obtain ⟨hx, hb, hml, hown, hts⟩ := id CF
  have f11 := hts (.fieldLink RX1 11 "MendAnothersBreaking$Pairing" "best" "[I") (List.mem_of_getElem? (i := 1) rfl)
  have f25 := hts (.fieldLink RX1 25 "MendAnothersBreaking$State" "people" "I") (List.mem_of_getElem? (i := 2) rfl)
  have i1 : ∀ w ∈ wsX10, w ∈ wsX1_mostFrom := fun w h => List.mem_cons_of_mem _ (List.mem_append_left _ (List.mem_append_right _ h))
  have i2 : ∀ w ∈ wsX20, w ∈ wsX1_mostFrom := fun w h => List.mem_cons_of_mem _ (List.mem_append_right _ h)
  have mmax_l := hts (.methodLink RX1 32 Lib.Math.max.name) (List.mem_of_getElem? (i := 3) rfl)
  have mmax_s := hts (.static Lib.Math.max.name) (List.mem_of_getElem? (i := 4) rfl)
  have m_i := hts (.initialized "java/lang/Math") (List.mem_of_getElem? (i := 5) rfl)
  have mmax_c := hts (.code Lib.Math.max.name Lib.Math.max.code 2 (some .int)) (List.mem_of_getElem? (i := 6) rfl)
  have L18 : ∀ (n : Nat) (x2 : Int32) (x3 : Int32) (x4 : Int32) (x5 : Int32), fuel (fun _ _ => none) (B_X1_mostFrom_18 x2 x3 be v) n x4 x5 = some res → 
      ∀ (H : Heap) (locs : List Loc) (ls : Array Slot), va_P D vwCl (cG h0 h1 cI be ++ cS g0 g1 g2 g3 g4 g5 g6 g7 cI v) H → va_D A (cG h0 h1 cI be ++ cS g0 g1 g2 g3 g4 g5 g6 g7 cI v) → va_S A s.heap H locs → lv_has ls 6 [(0, .ref h0), (1, .ref g0), (2, .int x2), (3, .int x3), (4, .int x4), (5, .int x5)] → W p l e { frames := 4, cells := 0, slots := 0, locals := 91 } s m args below meth c H locs 0 0 Q (F0 m 18 ls []) := by
    intro n
    induction n with
    | zero =>
      intro x2 x3 x4 x5 h
      exact nomatch (show (none : Option (Int32)) = some res from h)
    | succ n ih =>
      intro x2 x3 x4 x5 h  H locs ls hP hD hS hl
      replace h : B_X1_mostFrom_18 x2 x3 be v (fuel (fun _ _ => none) (B_X1_mostFrom_18 x2 x3 be v) n) x4 x5 = some res := h
      unfold B_X1_mostFrom_18 at h
      refine lv_iload hx hb dX1_mostFrom_18 (lv_at hl 5 rfl) ?_
      refine lv_aload_n hx hb dX1_mostFrom_20 rfl (lv_at hl 1 rfl) ?_
      refine va_get (D := D) (ci := 2) (v := .int (sPe v)) (C := RX2) (T := TX2) (N := 10) hx hb hts i2 hown hK hP 2 rfl rfl 7 (by decide) f25 (fun _ h9 => h9) rfl dX1_mostFrom_21 ?_
      refine lv_icmp_ge (tgt := 71) hx hb dX1_mostFrom_24 (by decide) (fun c24 => ?_) (fun c24 => ?_)
      · replace h := fx_ite_t c24 h
        refine lv_iload hx hb dX1_mostFrom_71 (lv_at hl 4 rfl) ?_
        obtain rfl := ret1 h
        exact rI hQ hx hb hr hlocks hAe hP hS rfl rfl dX1_mostFrom_73
      · replace h := fx_ite_f c24 h
        refine lv_aload_n hx hb dX1_mostFrom_27 rfl (lv_at hl 1 rfl) ?_
        refine lv_iload hx hb dX1_mostFrom_28 (lv_at hl 5 rfl) ?_
        refine lv_iload_n hx hb dX1_mostFrom_30 rfl (lv_at hl 3 rfl) ?_
        refine lv_iload_n hx hb dX1_mostFrom_31 rfl (lv_at hl 2 rfl) ?_
        obtain ⟨r32, q32, h⟩ := bnd1_inv h
        refine kSI (n := 4) (As := [.ref g0, .int x5, .int x3, .int x2]) (rest := []) CF hl hK hP hD hS hA (c_X1_isFree l D cI g0 g1 g2 g3 g4 g5 g6 g7 v x5 x3 x2 r32 q32) gX1_mostFrom_X1_isFree rfl dX1_mostFrom_32 (by decide +kernel) ⟨⟨rfl, rfl⟩, ⟨Nat.le_of_ble_eq_true rfl, Nat.le_of_ble_eq_true rfl⟩, Nat.zero_le _, Nat.zero_le _⟩ (JN.ro [2, 3, 4, 5, 6, 7, 8, 9] rfl rfl) rfl rfl (Nat.le_of_ble_eq_true rfl) (fun H locs hP hD hS => ?_)
        refine lv_if_eq (tgt := 65) hx hb dX1_mostFrom_35 (by decide) (fun c35 => ?_) (fun c35 => ?_)
        · replace h := fx_ite_t c35 h
          refine lv_iinc (v := (x5 + 1)) (lv' := [(5, .int (x5 + 1)), (0, .ref h0), (1, .ref g0), (2, .int x2), (3, .int x3), (4, .int x4)]) hx hb dX1_mostFrom_65 hl (k := 5) rfl (by first | rfl | decide) (by decide) rfl (fun ls hl => ?_)
          refine lv_goto (tgt := 18) hx hb dX1_mostFrom_68 (by decide) ?_
          exact ih _ _ _ _ h  _ _ _ hP hD hS (lv_sub hl [1, 2, 3, 4, 5, 0] rfl)
        · replace h := fx_ite_f c35 h
          refine lv_iload hx hb dX1_mostFrom_38 (lv_at hl 4 rfl) ?_
          refine lv_iconst (v := 1) hx hb dX1_mostFrom_40 (by decide) ?_
          refine lv_aload_n hx hb dX1_mostFrom_41 rfl (lv_at hl 0 rfl) ?_
          refine va_get (D := D) (ci := 1) (v := .ref h1) (C := RX1) (T := TX1) (N := 1) hx hb hts i1 hown hK hP 0 rfl rfl 0 (by decide) f11 (fun _ h9 => h9) rfl dX1_mostFrom_42 ?_
          refine lv_iload_n hx hb dX1_mostFrom_45 rfl (lv_at hl 2 rfl) ?_
          refine lv_iconst (v := 1) hx hb dX1_mostFrom_46 (by decide) ?_
          refine lv_iadd hx hb dX1_mostFrom_47 ?_
          refine lv_bipush (v := 64) hx hb dX1_mostFrom_48 (by decide) ?_
          refine lv_imul hx hb dX1_mostFrom_50 ?_
          refine lv_iload_n hx hb dX1_mostFrom_51 rfl (lv_at hl 3 rfl) ?_
          refine lv_iconst (v := 1) hx hb dX1_mostFrom_52 (by decide) ?_
          refine lv_iload hx hb dX1_mostFrom_53 (lv_at hl 5 rfl) ?_
          refine lv_ishl hx hb dX1_mostFrom_55 ?_
          refine lv_ior hx hb dX1_mostFrom_56 ?_
          refine lv_iadd hx hb dX1_mostFrom_57 ?_
          obtain ⟨g58, h⟩ := chk_inv h
          refine va_iald (n := 640) (f := be) hx hb hK hP 1 0 rfl rfl g58 dX1_mostFrom_58 ?_
          refine lv_iadd hx hb dX1_mostFrom_59 ?_
          refine va_mmax hx hb (hml.trans hl.1.symm) hown mmax_l mmax_s m_i mmax_c (Nat.le_of_ble_eq_true rfl) (Nat.le_of_ble_eq_true rfl) (Nat.zero_le _) (Nat.zero_le _) dX1_mostFrom_60 ?_
          refine lv_istore (lv' := [(4, .int (if x4 < ((1 : Int32) + (be (Int32.toNatClampNeg (((x2 + (1 : Int32)) * (64 : Int32)) + (x3 ||| ((1 : Int32) <<< (x5 &&& 31))))))) then ((1 : Int32) + (be (Int32.toNatClampNeg (((x2 + (1 : Int32)) * (64 : Int32)) + (x3 ||| ((1 : Int32) <<< (x5 &&& 31))))))) else x4)), (0, .ref h0), (1, .ref g0), (2, .int x2), (3, .int x3), (5, .int x5)]) hx hb dX1_mostFrom_63 hl (by decide) rfl (fun ls hl => ?_)
          refine lv_iinc (v := (x5 + 1)) (lv' := [(5, .int (x5 + 1)), (4, .int (if x4 < ((1 : Int32) + (be (Int32.toNatClampNeg (((x2 + (1 : Int32)) * (64 : Int32)) + (x3 ||| ((1 : Int32) <<< (x5 &&& 31))))))) then ((1 : Int32) + (be (Int32.toNatClampNeg (((x2 + (1 : Int32)) * (64 : Int32)) + (x3 ||| ((1 : Int32) <<< (x5 &&& 31))))))) else x4)), (0, .ref h0), (1, .ref g0), (2, .int x2), (3, .int x3)]) hx hb dX1_mostFrom_65 hl (k := 5) rfl (by first | rfl | decide) (by decide) rfl (fun ls hl => ?_)
          refine lv_goto (tgt := 18) hx hb dX1_mostFrom_68 (by decide) ?_
          exact ih _ _ _ _ h  _ _ _ hP hD hS (lv_sub hl [2, 3, 4, 5, 1, 0] rfl)
  unfold M_X1_mostFrom at h
  refine lv_aload_n hx hb dX1_mostFrom_0 rfl (lv_at hl 0 rfl) ?_
  refine va_get (D := D) (ci := 1) (v := .ref h1) (C := RX1) (T := TX1) (N := 1) hx hb hts i1 hown hK hP 0 rfl rfl 0 (by decide) f11 (fun _ h9 => h9) rfl dX1_mostFrom_1 ?_
  refine lv_iload_n hx hb dX1_mostFrom_4 rfl (lv_at hl 2 rfl) ?_
  refine lv_iconst (v := 1) hx hb dX1_mostFrom_5 (by decide) ?_
  refine lv_iadd hx hb dX1_mostFrom_6 ?_
  refine lv_bipush (v := 64) hx hb dX1_mostFrom_7 (by decide) ?_
  refine lv_imul hx hb dX1_mostFrom_9 ?_
  refine lv_iload_n hx hb dX1_mostFrom_10 rfl (lv_at hl 3 rfl) ?_
  refine lv_iadd hx hb dX1_mostFrom_11 ?_
  obtain ⟨g12, h⟩ := chk_inv h
  refine va_iald (n := 640) (f := be) hx hb hK hP 1 0 rfl rfl g12 dX1_mostFrom_12 ?_
  refine lv_istore (lv' := [(4, .int (be (Int32.toNatClampNeg (((p2 + (1 : Int32)) * (64 : Int32)) + p3)))), (0, .ref h0), (1, .ref g0), (2, .int p2), (3, .int p3)]) hx hb dX1_mostFrom_13 hl (by decide) rfl (fun ls hl => ?_)
  refine lv_iconst (v := 0) hx hb dX1_mostFrom_15 (by decide) ?_
  refine lv_istore (lv' := [(5, .int (0 : Int32)), (4, .int (be (Int32.toNatClampNeg (((p2 + (1 : Int32)) * (64 : Int32)) + p3)))), (0, .ref h0), (1, .ref g0), (2, .int p2), (3, .int p3)]) hx hb dX1_mostFrom_16 hl (by decide) rfl (fun ls hl => ?_)
  exact L18 FU _ _ _ _ h  _ _ _ hP hD hS (lv_sub hl [2, 3, 4, 5, 1, 0] rfl)
/-! X1_fill -/
set_option maxHeartbeats 4000000 in
set_option maxRecDepth 100000 in
theorem c_X1_fill (l : Launch) (D : va_G) (cI : ClassId) (h0 h1 g0 g1 g2 g3 g4 g5 g6 g7 : Nat) (be : (Nat → Int32)) (v : SV)  (u_be : (Nat → Int32)) (h : M_X1_fill be v = some u_be) : mV l yX1_fill wsX1_fill { frames := 5, cells := 0, slots := 0, locals := 116 } D cI [.ref h0, .ref g0] (cG h0 h1 cI be ++ cS g0 g1 g2 g3 g4 g5 g6 g7 cI v) (cG h0 h1 cI u_be ++ cS g0 g1 g2 g3 g4 g5 g6 g7 cI v) := by
  intro sz
  refine mStart (cc := cX1_fill) (maxL := 4) (ret := none) (own := RX1) (by decide) rfl rfl (Nat.le_of_ble_eq_true rfl) (lv := [(0, .ref h0), (1, .ref g0)]) rfl ?_
  intro p e s m args below meth c A ls Q H locs CF hr hlocks hK hP hD hS hA hAe hl hQ
  obtain ⟨hx, hb, hml, hown, hts⟩ := id CF
  have f11 := hts (.fieldLink RX1 11 "MendAnothersBreaking$Pairing" "best" "[I") (List.mem_of_getElem? (i := 1) rfl)
  have f15 := hts (.fieldLink RX1 15 "MendAnothersBreaking$State" "things" "I") (List.mem_of_getElem? (i := 2) rfl)
  have i1 : ∀ w ∈ wsX10, w ∈ wsX1_fill := fun w h => List.mem_cons_of_mem _ (List.mem_append_left _ (List.mem_append_right _ h))
  have i2 : ∀ w ∈ wsX20, w ∈ wsX1_fill := fun w h => List.mem_cons_of_mem _ (List.mem_append_right _ h)
  have L42 : ∀ (n : Nat) (x2 : Int32) (k72 : (Nat → Int32) → Option ((Nat → Int32))) (x3 : Int32) (be : (Nat → Int32)), fuel (fun _ _ => none) (B_X1_fill_42 x2 v k72) n x3 be = some u_be → 
      (∀ (be : (Nat → Int32)), k72 be = some u_be → ∀ (H : Heap) (locs : List Loc) (ls : Array Slot), va_P D vwCl (cG h0 h1 cI be ++ cS g0 g1 g2 g3 g4 g5 g6 g7 cI v) H → va_D A (cG h0 h1 cI be ++ cS g0 g1 g2 g3 g4 g5 g6 g7 cI v) → va_S A s.heap H locs → lv_has ls 4 [(0, .ref h0), (1, .ref g0), (2, .int x2)] → W p l e { frames := 5, cells := 0, slots := 0, locals := 116 } s m args below meth c H locs 0 0 Q (F0 m 72 ls [])) → 
      ∀ (H : Heap) (locs : List Loc) (ls : Array Slot), va_P D vwCl (cG h0 h1 cI be ++ cS g0 g1 g2 g3 g4 g5 g6 g7 cI v) H → va_D A (cG h0 h1 cI be ++ cS g0 g1 g2 g3 g4 g5 g6 g7 cI v) → va_S A s.heap H locs → lv_has ls 4 [(0, .ref h0), (1, .ref g0), (2, .int x2), (3, .int x3)] → W p l e { frames := 5, cells := 0, slots := 0, locals := 116 } s m args below meth c H locs 0 0 Q (F0 m 42 ls []) := by
    intro n
    induction n with
    | zero =>
      intro x2 k72 x3 be h
      exact nomatch (show (none : Option ((Nat → Int32))) = some u_be from h)
    | succ n ih =>
      intro x2 k72 x3 be h hk72 H locs ls hP hD hS hl
      replace h : B_X1_fill_42 x2 v k72 (fuel (fun _ _ => none) (B_X1_fill_42 x2 v k72) n) x3 be = some u_be := h
      unfold B_X1_fill_42 at h
      refine lv_iload_n hx hb dX1_fill_42 rfl (lv_at hl 3 rfl) ?_
      refine lv_bipush (v := 64) hx hb dX1_fill_43 (by decide) ?_
      refine lv_icmp_ge (tgt := 72) hx hb dX1_fill_45 (by decide) (fun c45 => ?_) (fun c45 => ?_)
      · replace h := fx_ite_t c45 h
        exact hk72 _ h _ _ _ hP hD hS (lv_sub hl [0, 1, 2] rfl)
      · replace h := fx_ite_f c45 h
        refine lv_aload_n hx hb dX1_fill_48 rfl (lv_at hl 0 rfl) ?_
        refine va_get (D := D) (ci := 1) (v := .ref h1) (C := RX1) (T := TX1) (N := 1) hx hb hts i1 hown hK hP 0 rfl rfl 0 (by decide) f11 (fun _ h9 => h9) rfl dX1_fill_49 ?_
        refine lv_iload_n hx hb dX1_fill_52 rfl (lv_at hl 2 rfl) ?_
        refine lv_bipush (v := 64) hx hb dX1_fill_53 (by decide) ?_
        refine lv_imul hx hb dX1_fill_55 ?_
        refine lv_iload_n hx hb dX1_fill_56 rfl (lv_at hl 3 rfl) ?_
        refine lv_iadd hx hb dX1_fill_57 ?_
        refine lv_aload_n hx hb dX1_fill_58 rfl (lv_at hl 0 rfl) ?_
        refine lv_aload_n hx hb dX1_fill_59 rfl (lv_at hl 1 rfl) ?_
        refine lv_iload_n hx hb dX1_fill_60 rfl (lv_at hl 2 rfl) ?_
        refine lv_iload_n hx hb dX1_fill_61 rfl (lv_at hl 3 rfl) ?_
        obtain ⟨r62, q62, h⟩ := bnd1_inv h
        refine kVI (n := 3) (As := [.ref g0, .int x2, .int x3]) (rest := [.int ((x2 * (64 : Int32)) + x3), .ref h1]) CF hl hK hP hD hS hA (c_X1_mostFrom l D cI h0 h1 g0 g1 g2 g3 g4 g5 g6 g7 be v x2 x3 r62 q62) gX1_fill_X1_mostFrom rfl dX1_fill_62 (by decide +kernel) ⟨⟨rfl, rfl⟩, ⟨Nat.le_of_ble_eq_true rfl, Nat.le_of_ble_eq_true rfl⟩, Nat.zero_le _, Nat.zero_le _⟩ (JN.whole rfl) 0 rfl ⟨rfl, rfl⟩ rfl rfl (Nat.le_of_ble_eq_true rfl) (fun H locs hP hD hS => ?_)
        replace hP : va_P D vwCl (cG h0 h1 cI be ++ cS g0 g1 g2 g3 g4 g5 g6 g7 cI v) H := hP
        replace hD : va_D A (cG h0 h1 cI be ++ cS g0 g1 g2 g3 g4 g5 g6 g7 cI v) := hD
        obtain ⟨g65, h⟩ := chk_inv h
        refine va_iast (n := 640) (f := be) hx hb hK hP hD hS 1 0 rfl rfl g65 dX1_fill_65 (fun H locs hP hD hS => ?_)
        replace hP : va_P D vwCl (cG h0 h1 cI (upd be (Int32.toNatClampNeg ((x2 * (64 : Int32)) + x3)) r62) ++ cS g0 g1 g2 g3 g4 g5 g6 g7 cI v) H := hP
        replace hD : va_D A (cG h0 h1 cI (upd be (Int32.toNatClampNeg ((x2 * (64 : Int32)) + x3)) r62) ++ cS g0 g1 g2 g3 g4 g5 g6 g7 cI v) := hD
        refine lv_iinc (v := (x3 + 1)) (lv' := [(3, .int (x3 + 1)), (0, .ref h0), (1, .ref g0), (2, .int x2)]) hx hb dX1_fill_66 hl (k := 3) rfl (by first | rfl | decide) (by decide) rfl (fun ls hl => ?_)
        refine lv_goto (tgt := 42) hx hb dX1_fill_69 (by decide) ?_
        exact ih _ _ _ _ h hk72 _ _ _ hP hD hS (lv_sub hl [1, 2, 3, 0] rfl)
  have L36 : ∀ (n : Nat)  (x2 : Int32) (be : (Nat → Int32)), fuel (fun _ _ => none) (B_X1_fill_36 v) n x2 be = some u_be → 
      ∀ (H : Heap) (locs : List Loc) (ls : Array Slot), va_P D vwCl (cG h0 h1 cI be ++ cS g0 g1 g2 g3 g4 g5 g6 g7 cI v) H → va_D A (cG h0 h1 cI be ++ cS g0 g1 g2 g3 g4 g5 g6 g7 cI v) → va_S A s.heap H locs → lv_has ls 4 [(0, .ref h0), (1, .ref g0), (2, .int x2)] → W p l e { frames := 5, cells := 0, slots := 0, locals := 116 } s m args below meth c H locs 0 0 Q (F0 m 36 ls []) := by
    intro n
    induction n with
    | zero =>
      intro x2 be h
      exact nomatch (show (none : Option ((Nat → Int32))) = some u_be from h)
    | succ n ih =>
      intro x2 be h  H locs ls hP hD hS hl
      replace h : B_X1_fill_36 v (fuel (fun _ _ => none) (B_X1_fill_36 v) n) x2 be = some u_be := h
      unfold B_X1_fill_36 at h
      refine lv_iload_n hx hb dX1_fill_36 rfl (lv_at hl 2 rfl) ?_
      refine lv_if_lt (tgt := 78) hx hb dX1_fill_37 (by decide) (fun c37 => ?_) (fun c37 => ?_)
      · replace h := fx_ite_t c37 h
        obtain rfl := ret1 h
        exact rV hQ hx hb hr hlocks hAe hP hS dX1_fill_78
      · replace h := fx_ite_f c37 h
        refine lv_iconst (v := 0) hx hb dX1_fill_40 (by decide) ?_
        refine lv_istore_n (lv' := [(3, .int (0 : Int32)), (0, .ref h0), (1, .ref g0), (2, .int x2)]) hx hb dX1_fill_41 rfl hl (by decide) rfl (fun ls hl => ?_)
        refine L42 FU _ _ _ _ h (fun be h H locs ls hP hD hS hl => ?_) _ _ _ hP hD hS (lv_sub hl [1, 2, 3, 0] rfl)
        refine lv_iinc (v := (x2 + (-1))) (lv' := [(2, .int (x2 + (-1))), (0, .ref h0), (1, .ref g0)]) hx hb dX1_fill_72 hl (k := 2) rfl (by first | rfl | decide) (by decide) rfl (fun ls hl => ?_)
        refine lv_goto (tgt := 36) hx hb dX1_fill_75 (by decide) ?_
        exact ih _ _ h  _ _ _ hP hD hS (lv_sub hl [1, 2, 0] rfl)
  have L2 : ∀ (n : Nat)  (x2 : Int32) (be : (Nat → Int32)), fuel (fun _ _ => none) (B_X1_fill_2 v) n x2 be = some u_be → 
      ∀ (H : Heap) (locs : List Loc) (ls : Array Slot), va_P D vwCl (cG h0 h1 cI be ++ cS g0 g1 g2 g3 g4 g5 g6 g7 cI v) H → va_D A (cG h0 h1 cI be ++ cS g0 g1 g2 g3 g4 g5 g6 g7 cI v) → va_S A s.heap H locs → lv_has ls 4 [(0, .ref h0), (1, .ref g0), (2, .int x2)] → W p l e { frames := 5, cells := 0, slots := 0, locals := 116 } s m args below meth c H locs 0 0 Q (F0 m 2 ls []) := by
    intro n
    induction n with
    | zero =>
      intro x2 be h
      exact nomatch (show (none : Option ((Nat → Int32))) = some u_be from h)
    | succ n ih =>
      intro x2 be h  H locs ls hP hD hS hl
      replace h : B_X1_fill_2 v (fuel (fun _ _ => none) (B_X1_fill_2 v) n) x2 be = some u_be := h
      unfold B_X1_fill_2 at h
      refine lv_iload_n hx hb dX1_fill_2 rfl (lv_at hl 2 rfl) ?_
      refine lv_bipush (v := 64) hx hb dX1_fill_3 (by decide) ?_
      refine lv_icmp_ge (tgt := 29) hx hb dX1_fill_5 (by decide) (fun c5 => ?_) (fun c5 => ?_)
      · replace h := fx_ite_t c5 h
        refine lv_aload_n hx hb dX1_fill_29 rfl (lv_at hl 1 rfl) ?_
        refine va_get (D := D) (ci := 2) (v := .int (sTh v)) (C := RX2) (T := TX2) (N := 10) hx hb hts i2 hown hK hP 2 rfl rfl 8 (by decide) f15 (fun _ h9 => h9) rfl dX1_fill_30 ?_
        refine lv_iconst (v := 1) hx hb dX1_fill_33 (by decide) ?_
        refine lv_isub hx hb dX1_fill_34 ?_
        refine lv_istore_n (lv' := [(2, .int ((sTh v) - (1 : Int32))), (0, .ref h0), (1, .ref g0)]) hx hb dX1_fill_35 rfl hl (by decide) rfl (fun ls hl => ?_)
        exact L36 FU _ _ h  _ _ _ hP hD hS (lv_sub hl [1, 2, 0] rfl)
      · replace h := fx_ite_f c5 h
        refine lv_aload_n hx hb dX1_fill_8 rfl (lv_at hl 0 rfl) ?_
        refine va_get (D := D) (ci := 1) (v := .ref h1) (C := RX1) (T := TX1) (N := 1) hx hb hts i1 hown hK hP 0 rfl rfl 0 (by decide) f11 (fun _ h9 => h9) rfl dX1_fill_9 ?_
        refine lv_aload_n hx hb dX1_fill_12 rfl (lv_at hl 1 rfl) ?_
        refine va_get (D := D) (ci := 2) (v := .int (sTh v)) (C := RX2) (T := TX2) (N := 10) hx hb hts i2 hown hK hP 2 rfl rfl 8 (by decide) f15 (fun _ h9 => h9) rfl dX1_fill_13 ?_
        refine lv_bipush (v := 64) hx hb dX1_fill_16 (by decide) ?_
        refine lv_imul hx hb dX1_fill_18 ?_
        refine lv_iload_n hx hb dX1_fill_19 rfl (lv_at hl 2 rfl) ?_
        refine lv_iadd hx hb dX1_fill_20 ?_
        refine lv_iconst (v := 0) hx hb dX1_fill_21 (by decide) ?_
        obtain ⟨g22, h⟩ := chk_inv h
        refine va_iast (n := 640) (f := be) hx hb hK hP hD hS 1 0 rfl rfl g22 dX1_fill_22 (fun H locs hP hD hS => ?_)
        replace hP : va_P D vwCl (cG h0 h1 cI (upd be (Int32.toNatClampNeg (((sTh v) * (64 : Int32)) + x2)) (0 : Int32)) ++ cS g0 g1 g2 g3 g4 g5 g6 g7 cI v) H := hP
        replace hD : va_D A (cG h0 h1 cI (upd be (Int32.toNatClampNeg (((sTh v) * (64 : Int32)) + x2)) (0 : Int32)) ++ cS g0 g1 g2 g3 g4 g5 g6 g7 cI v) := hD
        refine lv_iinc (v := (x2 + 1)) (lv' := [(2, .int (x2 + 1)), (0, .ref h0), (1, .ref g0)]) hx hb dX1_fill_23 hl (k := 2) rfl (by first | rfl | decide) (by decide) rfl (fun ls hl => ?_)
        refine lv_goto (tgt := 2) hx hb dX1_fill_26 (by decide) ?_
        exact ih _ _ h  _ _ _ hP hD hS (lv_sub hl [1, 2, 0] rfl)
  unfold M_X1_fill at h
  refine lv_iconst (v := 0) hx hb dX1_fill_0 (by decide) ?_
  refine lv_istore_n (lv' := [(2, .int (0 : Int32)), (0, .ref h0), (1, .ref g0)]) hx hb dX1_fill_1 rfl hl (by decide) rfl (fun ls hl => ?_)
  exact L2 FU _ _ h  _ _ _ hP hD hS (lv_sub hl [1, 2, 0] rfl)
/-! X1_most -/
set_option maxHeartbeats 4000000 in
set_option maxRecDepth 100000 in
theorem c_X1_most (l : Launch) (D : va_G) (cI : ClassId) (h0 h1 : Nat) (be : (Nat → Int32))  (res : Int32) (h : M_X1_most be = some res) : mI l yX1_most wsX1_most { frames := 0, cells := 0, slots := 0, locals := 0 } D cI [.ref h0] (cG h0 h1 cI be) (cG h0 h1 cI be) res := by
  intro sz
  refine mStart (cc := cX1_most) (maxL := 1) (ret := (some .int)) (own := RX1) (by decide) rfl rfl (Nat.le_of_ble_eq_true rfl) (lv := [(0, .ref h0)]) rfl ?_
  intro p e s m args below meth c A ls Q H locs CF hr hlocks hK hP hD hS hA hAe hl hQ
  obtain ⟨hx, hb, hml, hown, hts⟩ := id CF
  have f11 := hts (.fieldLink RX1 11 "MendAnothersBreaking$Pairing" "best" "[I") (List.mem_of_getElem? (i := 1) rfl)
  have i1 : ∀ w ∈ wsX10, w ∈ wsX1_most := fun w h => List.mem_cons_of_mem _ (List.mem_append_right _ h)
  unfold M_X1_most at h
  refine lv_aload_n hx hb dX1_most_0 rfl (lv_at hl 0 rfl) ?_
  refine va_get (D := D) (ci := 1) (v := .ref h1) (C := RX1) (T := TX1) (N := 1) hx hb hts i1 hown hK hP 0 rfl rfl 0 (by decide) f11 (fun _ h9 => h9) rfl dX1_most_1 ?_
  refine lv_iconst (v := 0) hx hb dX1_most_4 (by decide) ?_
  refine ald (n := 640) (f := be) (k := 0) hx hb hK hP 1 0 rfl rfl (fx_lit rfl) rfl dX1_most_5 ?_
  obtain rfl := ret1 h
  exact rI hQ hx hb hr hlocks hAe hP hS rfl rfl dX1_most_6
/-! X1_leastMender -/
set_option maxHeartbeats 4000000 in
set_option maxRecDepth 100000 in
theorem c_X1_leastMender (l : Launch) (D : va_G) (cI : ClassId) (h0 h1 g0 g1 g2 g3 g4 g5 g6 g7 : Nat) (be : (Nat → Int32)) (v : SV) (p2 : Int32) (p3 : Int32) (res : Int32) (h : M_X1_leastMender be v p2 p3 = some res) : mI l yX1_leastMender wsX1_leastMender { frames := 4, cells := 0, slots := 0, locals := 91 } D cI [.ref h0, .ref g0, .int p2, .int p3] (cG h0 h1 cI be ++ cS g0 g1 g2 g3 g4 g5 g6 g7 cI v) (cG h0 h1 cI be ++ cS g0 g1 g2 g3 g4 g5 g6 g7 cI v) res := by
  intro sz
  refine mStart (cc := cX1_leastMender) (maxL := 6) (ret := (some .int)) (own := RX1) (by decide) rfl rfl (Nat.le_of_ble_eq_true rfl) (lv := [(0, .ref h0), (1, .ref g0), (2, .int p2), (3, .int p3)]) rfl ?_
  intro p e s m args below meth c A ls Q H locs CF hr hlocks hK hP hD hS hA hAe hl hQ
  obtain ⟨hx, hb, hml, hown, hts⟩ := id CF
  have f11 := hts (.fieldLink RX1 11 "MendAnothersBreaking$Pairing" "best" "[I") (List.mem_of_getElem? (i := 1) rfl)
  have f25 := hts (.fieldLink RX1 25 "MendAnothersBreaking$State" "people" "I") (List.mem_of_getElem? (i := 2) rfl)
  have i1 : ∀ w ∈ wsX10, w ∈ wsX1_leastMender := fun w h => List.mem_cons_of_mem _ (List.mem_append_left _ (List.mem_append_right _ h))
  have i2 : ∀ w ∈ wsX20, w ∈ wsX1_leastMender := fun w h => List.mem_cons_of_mem _ (List.mem_append_right _ h)
  have L16 : ∀ (n : Nat) (x2 : Int32) (x3 : Int32) (x4 : Int32) (x5 : Int32), fuel (fun _ => none) (B_X1_leastMender_16 x2 x3 x4 be v) n x5 = some res → 
      ∀ (H : Heap) (locs : List Loc) (ls : Array Slot), va_P D vwCl (cG h0 h1 cI be ++ cS g0 g1 g2 g3 g4 g5 g6 g7 cI v) H → va_D A (cG h0 h1 cI be ++ cS g0 g1 g2 g3 g4 g5 g6 g7 cI v) → va_S A s.heap H locs → lv_has ls 6 [(0, .ref h0), (1, .ref g0), (2, .int x2), (3, .int x3), (4, .int x4), (5, .int x5)] → W p l e { frames := 4, cells := 0, slots := 0, locals := 91 } s m args below meth c H locs 0 0 Q (F0 m 16 ls []) := by
    intro n
    induction n with
    | zero =>
      intro x2 x3 x4 x5 h
      exact nomatch (show (none : Option (Int32)) = some res from h)
    | succ n ih =>
      intro x2 x3 x4 x5 h  H locs ls hP hD hS hl
      replace h : B_X1_leastMender_16 x2 x3 x4 be v (fuel (fun _ => none) (B_X1_leastMender_16 x2 x3 x4 be v) n) x5 = some res := h
      unfold B_X1_leastMender_16 at h
      refine lv_iload hx hb dX1_leastMender_16 (lv_at hl 5 rfl) ?_
      refine lv_aload_n hx hb dX1_leastMender_18 rfl (lv_at hl 1 rfl) ?_
      refine va_get (D := D) (ci := 2) (v := .int (sPe v)) (C := RX2) (T := TX2) (N := 10) hx hb hts i2 hown hK hP 2 rfl rfl 7 (by decide) f25 (fun _ h9 => h9) rfl dX1_leastMender_19 ?_
      refine lv_icmp_ge (tgt := 70) hx hb dX1_leastMender_22 (by decide) (fun c22 => ?_) (fun c22 => ?_)
      · replace h := fx_ite_t c22 h
        refine lv_bipush (v := (-9)) hx hb dX1_leastMender_70 (by decide) ?_
        obtain rfl := ret1 h
        exact rI hQ hx hb hr hlocks hAe hP hS rfl rfl dX1_leastMender_72
      · replace h := fx_ite_f c22 h
        refine lv_aload_n hx hb dX1_leastMender_25 rfl (lv_at hl 1 rfl) ?_
        refine lv_iload hx hb dX1_leastMender_26 (lv_at hl 5 rfl) ?_
        refine lv_iload_n hx hb dX1_leastMender_28 rfl (lv_at hl 3 rfl) ?_
        refine lv_iload_n hx hb dX1_leastMender_29 rfl (lv_at hl 2 rfl) ?_
        obtain ⟨r30, q30, h⟩ := bnd1_inv h
        refine kSI (n := 4) (As := [.ref g0, .int x5, .int x3, .int x2]) (rest := []) CF hl hK hP hD hS hA (c_X1_isFree l D cI g0 g1 g2 g3 g4 g5 g6 g7 v x5 x3 x2 r30 q30) gX1_leastMender_X1_isFree rfl dX1_leastMender_30 (by decide +kernel) ⟨⟨rfl, rfl⟩, ⟨Nat.le_of_ble_eq_true rfl, Nat.le_of_ble_eq_true rfl⟩, Nat.zero_le _, Nat.zero_le _⟩ (JN.ro [2, 3, 4, 5, 6, 7, 8, 9] rfl rfl) rfl rfl (Nat.le_of_ble_eq_true rfl) (fun H locs hP hD hS => ?_)
        refine lv_if_eq (tgt := 64) hx hb dX1_leastMender_33 (by decide) (fun c33 => ?_) (fun c33 => ?_)
        · replace h := fx_ite_t c33 h
          refine lv_iinc (v := (x5 + 1)) (lv' := [(5, .int (x5 + 1)), (0, .ref h0), (1, .ref g0), (2, .int x2), (3, .int x3), (4, .int x4)]) hx hb dX1_leastMender_64 hl (k := 5) rfl (by first | rfl | decide) (by decide) rfl (fun ls hl => ?_)
          refine lv_goto (tgt := 16) hx hb dX1_leastMender_67 (by decide) ?_
          exact ih _ _ _ _ h  _ _ _ hP hD hS (lv_sub hl [1, 2, 3, 4, 5, 0] rfl)
        · replace h := fx_ite_f c33 h
          refine lv_iconst (v := 1) hx hb dX1_leastMender_36 (by decide) ?_
          refine lv_aload_n hx hb dX1_leastMender_37 rfl (lv_at hl 0 rfl) ?_
          refine va_get (D := D) (ci := 1) (v := .ref h1) (C := RX1) (T := TX1) (N := 1) hx hb hts i1 hown hK hP 0 rfl rfl 0 (by decide) f11 (fun _ h9 => h9) rfl dX1_leastMender_38 ?_
          refine lv_iload_n hx hb dX1_leastMender_41 rfl (lv_at hl 2 rfl) ?_
          refine lv_iconst (v := 1) hx hb dX1_leastMender_42 (by decide) ?_
          refine lv_iadd hx hb dX1_leastMender_43 ?_
          refine lv_bipush (v := 64) hx hb dX1_leastMender_44 (by decide) ?_
          refine lv_imul hx hb dX1_leastMender_46 ?_
          refine lv_iload_n hx hb dX1_leastMender_47 rfl (lv_at hl 3 rfl) ?_
          refine lv_iconst (v := 1) hx hb dX1_leastMender_48 (by decide) ?_
          refine lv_iload hx hb dX1_leastMender_49 (lv_at hl 5 rfl) ?_
          refine lv_ishl hx hb dX1_leastMender_51 ?_
          refine lv_ior hx hb dX1_leastMender_52 ?_
          refine lv_iadd hx hb dX1_leastMender_53 ?_
          obtain ⟨g54, h⟩ := chk_inv h
          refine va_iald (n := 640) (f := be) hx hb hK hP 1 0 rfl rfl g54 dX1_leastMender_54 ?_
          refine lv_iadd hx hb dX1_leastMender_55 ?_
          refine lv_iload hx hb dX1_leastMender_56 (lv_at hl 4 rfl) ?_
          refine lv_icmp_ne (tgt := 64) hx hb dX1_leastMender_58 (by decide) (fun c58 => ?_) (fun c58 => ?_)
          · replace h := fx_ite_f c58 h
            refine lv_iinc (v := (x5 + 1)) (lv' := [(5, .int (x5 + 1)), (0, .ref h0), (1, .ref g0), (2, .int x2), (3, .int x3), (4, .int x4)]) hx hb dX1_leastMender_64 hl (k := 5) rfl (by first | rfl | decide) (by decide) rfl (fun ls hl => ?_)
            refine lv_goto (tgt := 16) hx hb dX1_leastMender_67 (by decide) ?_
            exact ih _ _ _ _ h  _ _ _ hP hD hS (lv_sub hl [1, 2, 3, 4, 5, 0] rfl)
          · replace h := fx_ite_t c58 h
            refine lv_iload hx hb dX1_leastMender_61 (lv_at hl 5 rfl) ?_
            obtain rfl := ret1 h
            exact rI hQ hx hb hr hlocks hAe hP hS rfl rfl dX1_leastMender_63
  unfold M_X1_leastMender at h
  refine lv_aload_n hx hb dX1_leastMender_0 rfl (lv_at hl 0 rfl) ?_
  refine va_get (D := D) (ci := 1) (v := .ref h1) (C := RX1) (T := TX1) (N := 1) hx hb hts i1 hown hK hP 0 rfl rfl 0 (by decide) f11 (fun _ h9 => h9) rfl dX1_leastMender_1 ?_
  refine lv_iload_n hx hb dX1_leastMender_4 rfl (lv_at hl 2 rfl) ?_
  refine lv_bipush (v := 64) hx hb dX1_leastMender_5 (by decide) ?_
  refine lv_imul hx hb dX1_leastMender_7 ?_
  refine lv_iload_n hx hb dX1_leastMender_8 rfl (lv_at hl 3 rfl) ?_
  refine lv_iadd hx hb dX1_leastMender_9 ?_
  obtain ⟨g10, h⟩ := chk_inv h
  refine va_iald (n := 640) (f := be) hx hb hK hP 1 0 rfl rfl g10 dX1_leastMender_10 ?_
  refine lv_istore (lv' := [(4, .int (be (Int32.toNatClampNeg ((p2 * (64 : Int32)) + p3)))), (0, .ref h0), (1, .ref g0), (2, .int p2), (3, .int p3)]) hx hb dX1_leastMender_11 hl (by decide) rfl (fun ls hl => ?_)
  refine lv_iconst (v := 0) hx hb dX1_leastMender_13 (by decide) ?_
  refine lv_istore (lv' := [(5, .int (0 : Int32)), (4, .int (be (Int32.toNatClampNeg ((p2 * (64 : Int32)) + p3)))), (0, .ref h0), (1, .ref g0), (2, .int p2), (3, .int p3)]) hx hb dX1_leastMender_14 hl (by decide) rfl (fun ls hl => ?_)
  exact L16 FU _ _ _ _ h  _ _ _ hP hD hS (lv_sub hl [2, 3, 4, 5, 1, 0] rfl)
/-! X1_menderOf -/
set_option maxHeartbeats 4000000 in
set_option maxRecDepth 100000 in
theorem c_X1_menderOf (l : Launch) (D : va_G) (cI : ClassId) (h0 h1 g0 g1 g2 g3 g4 g5 g6 g7 : Nat) (be : (Nat → Int32)) (v : SV) (p2 : Int32) (res : Int32) (h : M_X1_menderOf be v p2 = some res) : mI l yX1_menderOf wsX1_menderOf { frames := 5, cells := 0, slots := 0, locals := 116 } D cI [.ref h0, .ref g0, .int p2] (cG h0 h1 cI be ++ cS g0 g1 g2 g3 g4 g5 g6 g7 cI v) (cG h0 h1 cI be ++ cS g0 g1 g2 g3 g4 g5 g6 g7 cI v) res := by
  intro sz
  refine mStart (cc := cX1_menderOf) (maxL := 6) (ret := (some .int)) (own := RX1) (by decide) rfl rfl (Nat.le_of_ble_eq_true rfl) (lv := [(0, .ref h0), (1, .ref g0), (2, .int p2)]) rfl ?_
  intro p e s m args below meth c A ls Q H locs CF hr hlocks hK hP hD hS hA hAe hl hQ
  obtain ⟨hx, hb, hml, hown, hts⟩ := id CF
  have L9 : ∀ (n : Nat) (x2 : Int32) (x3 : Int32) (x4 : Int32) (x5 : Int32), fuel (fun _ _ _ => none) (B_X1_menderOf_9 x2 be v) n x3 x4 x5 = some res → 
      ∀ (H : Heap) (locs : List Loc) (ls : Array Slot), va_P D vwCl (cG h0 h1 cI be ++ cS g0 g1 g2 g3 g4 g5 g6 g7 cI v) H → va_D A (cG h0 h1 cI be ++ cS g0 g1 g2 g3 g4 g5 g6 g7 cI v) → va_S A s.heap H locs → lv_has ls 6 [(0, .ref h0), (1, .ref g0), (2, .int x2), (3, .int x3), (4, .int x4), (5, .int x5)] → W p l e { frames := 5, cells := 0, slots := 0, locals := 116 } s m args below meth c H locs 0 0 Q (F0 m 9 ls []) := by
    intro n
    induction n with
    | zero =>
      intro x2 x3 x4 x5 h
      exact nomatch (show (none : Option (Int32)) = some res from h)
    | succ n ih =>
      intro x2 x3 x4 x5 h  H locs ls hP hD hS hl
      replace h : B_X1_menderOf_9 x2 be v (fuel (fun _ _ _ => none) (B_X1_menderOf_9 x2 be v) n) x3 x4 x5 = some res := h
      unfold B_X1_menderOf_9 at h
      refine lv_iload hx hb dX1_menderOf_9 (lv_at hl 5 rfl) ?_
      refine lv_iload_n hx hb dX1_menderOf_11 rfl (lv_at hl 2 rfl) ?_
      refine lv_icmp_gt (tgt := 49) hx hb dX1_menderOf_12 (by decide) (fun c12 => ?_) (fun c12 => ?_)
      · replace h := fx_ite_t c12 h
        refine lv_iload hx hb dX1_menderOf_49 (lv_at hl 4 rfl) ?_
        obtain rfl := ret1 h
        exact rI hQ hx hb hr hlocks hAe hP hS rfl rfl dX1_menderOf_51
      · replace h := fx_ite_f c12 h
        refine lv_aload_n hx hb dX1_menderOf_15 rfl (lv_at hl 0 rfl) ?_
        refine lv_aload_n hx hb dX1_menderOf_16 rfl (lv_at hl 1 rfl) ?_
        refine lv_iload hx hb dX1_menderOf_17 (lv_at hl 5 rfl) ?_
        refine lv_iload_n hx hb dX1_menderOf_19 rfl (lv_at hl 3 rfl) ?_
        obtain ⟨r20, q20, h⟩ := bnd1_inv h
        refine kVI (n := 3) (As := [.ref g0, .int x5, .int x3]) (rest := []) CF hl hK hP hD hS hA (c_X1_leastMender l D cI h0 h1 g0 g1 g2 g3 g4 g5 g6 g7 be v x5 x3 r20 q20) gX1_menderOf_X1_leastMender rfl dX1_menderOf_20 (by decide +kernel) ⟨⟨rfl, rfl⟩, ⟨Nat.le_of_ble_eq_true rfl, Nat.le_of_ble_eq_true rfl⟩, Nat.zero_le _, Nat.zero_le _⟩ (JN.whole rfl) 0 rfl ⟨rfl, rfl⟩ rfl rfl (Nat.le_of_ble_eq_true rfl) (fun H locs hP hD hS => ?_)
        replace hP : va_P D vwCl (cG h0 h1 cI be ++ cS g0 g1 g2 g3 g4 g5 g6 g7 cI v) H := hP
        replace hD : va_D A (cG h0 h1 cI be ++ cS g0 g1 g2 g3 g4 g5 g6 g7 cI v) := hD
        refine lv_istore (lv' := [(4, .int r20), (0, .ref h0), (1, .ref g0), (2, .int x2), (3, .int x3), (5, .int x5)]) hx hb dX1_menderOf_23 hl (by decide) rfl (fun ls hl => ?_)
        refine lv_iload_n hx hb dX1_menderOf_25 rfl (lv_at hl 4 rfl) ?_
        refine lv_iload hx hb dX1_menderOf_26 (lv_at hl 0 rfl) ?_
        refine lv_bipush (v := (-9)) hx hb dX1_menderOf_28 (by decide) ?_
        refine lv_icmp_ne (tgt := 37) hx hb dX1_menderOf_30 (by decide) (fun c30 => ?_) (fun c30 => ?_)
        · replace h := fx_ite_f c30 h
          refine lv_iconst (v := 1) hx hb dX1_menderOf_37 (by decide) ?_
          refine lv_iload hx hb dX1_menderOf_38 (lv_at hl 0 rfl) ?_
          refine lv_ishl hx hb dX1_menderOf_40 ?_
          refine lv_ior hx hb dX1_menderOf_41 ?_
          refine lv_istore_n (lv' := [(3, .int (x3 ||| ((1 : Int32) <<< (r20 &&& 31)))), (4, .int r20), (0, .ref h0), (1, .ref g0), (2, .int x2), (5, .int x5)]) hx hb dX1_menderOf_42 rfl hl (by decide) rfl (fun ls hl => ?_)
          refine lv_iinc (v := (x5 + 1)) (lv' := [(5, .int (x5 + 1)), (3, .int (x3 ||| ((1 : Int32) <<< (r20 &&& 31)))), (4, .int r20), (0, .ref h0), (1, .ref g0), (2, .int x2)]) hx hb dX1_menderOf_43 hl (k := 5) rfl (by first | rfl | decide) (by decide) rfl (fun ls hl => ?_)
          refine lv_goto (tgt := 9) hx hb dX1_menderOf_46 (by decide) ?_
          exact ih _ _ _ _ h  _ _ _ hP hD hS (lv_sub hl [3, 4, 5, 1, 2, 0] rfl)
        · replace h := fx_ite_t c30 h
          refine lv_iconst (v := 0) hx hb dX1_menderOf_33 (by decide) ?_
          refine lv_goto (tgt := 41) hx hb dX1_menderOf_34 (by decide) ?_
          refine lv_ior hx hb dX1_menderOf_41 ?_
          refine lv_istore_n (lv' := [(3, .int (x3 ||| (0 : Int32))), (4, .int r20), (0, .ref h0), (1, .ref g0), (2, .int x2), (5, .int x5)]) hx hb dX1_menderOf_42 rfl hl (by decide) rfl (fun ls hl => ?_)
          refine lv_iinc (v := (x5 + 1)) (lv' := [(5, .int (x5 + 1)), (3, .int (x3 ||| (0 : Int32))), (4, .int r20), (0, .ref h0), (1, .ref g0), (2, .int x2)]) hx hb dX1_menderOf_43 hl (k := 5) rfl (by first | rfl | decide) (by decide) rfl (fun ls hl => ?_)
          refine lv_goto (tgt := 9) hx hb dX1_menderOf_46 (by decide) ?_
          exact ih _ _ _ _ h  _ _ _ hP hD hS (lv_sub hl [3, 4, 5, 1, 2, 0] rfl)
  unfold M_X1_menderOf at h
  refine lv_iconst (v := 0) hx hb dX1_menderOf_0 (by decide) ?_
  refine lv_istore_n (lv' := [(3, .int (0 : Int32)), (0, .ref h0), (1, .ref g0), (2, .int p2)]) hx hb dX1_menderOf_1 rfl hl (by decide) rfl (fun ls hl => ?_)
  refine lv_bipush (v := (-9)) hx hb dX1_menderOf_2 (by decide) ?_
  refine lv_istore (lv' := [(4, .int (-9 : Int32)), (3, .int (0 : Int32)), (0, .ref h0), (1, .ref g0), (2, .int p2)]) hx hb dX1_menderOf_4 hl (by decide) rfl (fun ls hl => ?_)
  refine lv_iconst (v := 0) hx hb dX1_menderOf_6 (by decide) ?_
  refine lv_istore (lv' := [(5, .int (0 : Int32)), (4, .int (-9 : Int32)), (3, .int (0 : Int32)), (0, .ref h0), (1, .ref g0), (2, .int p2)]) hx hb dX1_menderOf_7 hl (by decide) rfl (fun ls hl => ?_)
  exact L9 FU _ _ _ _ h  _ _ _ hP hD hS (lv_sub hl [3, 4, 5, 2, 1, 0] rfl)
