/-! X4_image -/
set_option maxHeartbeats 4000000 in
set_option maxRecDepth 100000 in
theorem c_X4_image (l : Launch) (D : va_G) (cI : ClassId) (a : Nat → Nat) (ss : (Nat → Int32)) (mm : (Nat → Int32)) (im : (Nat → Int32)) (wa : (Nat → Int32)) (hi : Int32) (le : (Nat → Int32)) (ro : (Nat → Int32)) (re : (Nat → Int32)) (lm : Int32) (rm : Int32) (pl : Int32) (nu : (Nat → Int32)) (gi : (Nat → Int32)) (bg : (Nat → Int32)) (bm : Int32) (sd : Int32)  (res : Int32) (u_im : (Nat → Int32)) (u_hi : Int32) (h : M_X4_image ss im hi = some (res, u_im, u_hi)) : mI l yX4_image wsX4_image { frames := 1, cells := 0, slots := 0, locals := 22 } D cI [.ref (a 0)] (cM a cI ss mm im wa hi le ro re lm rm pl nu gi bg bm sd) (cM a cI ss mm u_im wa u_hi le ro re lm rm pl nu gi bg bm sd) res := by
  intro sz
  refine mStart (cc := cX4_image) (maxL := 1) (ret := (some .int)) (own := RX4) (by decide) rfl rfl (Nat.le_of_ble_eq_true rfl) (lv := [(0, .ref (a 0))]) rfl ?_
  intro p e s m args below meth c A ls Q H locs CF hr hlocks hK hP hD hS hA hAe hl hQ
  obtain ⟨hx, hb, hml, hown, hts⟩ := id CF
  have f9 := hts (.fieldLink RX4 9 "MendAnothersBreakingModel" "s" "[I") (List.mem_of_getElem? (i := 1) rfl)
  have f16 := hts (.fieldLink RX4 16 "MendAnothersBreakingModel" "image" "[I") (List.mem_of_getElem? (i := 2) rfl)
  have f239 := hts (.fieldLink RX4 239 "MendAnothersBreakingModel" "hasImage" "Z") (List.mem_of_getElem? (i := 3) rfl)
  have i4 : ∀ w ∈ wsX40, w ∈ wsX4_image := fun w h => List.mem_cons_of_mem _ (List.mem_append_right _ h)
  unfold M_X4_image at h
  refine lv_aload_n hx hb dX4_image_0 rfl (lv_at hl 0 rfl) ?_
  refine va_get (D := D) (ci := 4) (v := .ref (a 1)) (C := RX4) (T := TX4) (N := 16) hx hb hts i4 hown hK hP 0 rfl rfl 0 (by decide) f9 (fun _ h9 => h9) rfl dX4_image_1 ?_
  refine lv_aload_n hx hb dX4_image_4 rfl (lv_at hl 0 rfl) ?_
  refine va_get (D := D) (ci := 4) (v := .ref (a 3)) (C := RX4) (T := TX4) (N := 16) hx hb hts i4 hown hK hP 0 rfl rfl 2 (by decide) f16 (fun _ h9 => h9) rfl dX4_image_5 ?_
  obtain ⟨u8_im, q8, h⟩ := bnd1_inv h
  refine kSV (n := 2) (As := [.ref (a 1), .ref (a 3)]) (rest := []) CF hl hK hP hD hS hA (c_X4_copies l D cI (a 1) (a 3) ss im  u8_im q8) gX4_image_X4_copies rfl dX4_image_8 (by decide +kernel) ⟨⟨rfl, rfl⟩, ⟨Nat.le_of_ble_eq_true rfl, Nat.le_of_ble_eq_true rfl⟩, Nat.zero_le _, Nat.zero_le _⟩ (JN.sub (wst' := (cM a cI ss mm u8_im wa hi le ro re lm rm pl nu gi bg bm sd)) [1, 3] rfl rfl rfl rfl) rfl rfl (Nat.le_of_ble_eq_true rfl) (fun H locs hP hD hS => ?_)
  replace hP : va_P D vwCl (cM a cI ss mm u8_im wa hi le ro re lm rm pl nu gi bg bm sd) H := hP
  replace hD : va_D A (cM a cI ss mm u8_im wa hi le ro re lm rm pl nu gi bg bm sd) := hD
  refine lv_aload_n hx hb dX4_image_11 rfl (lv_at hl 0 rfl) ?_
  refine lv_iconst (v := 1) hx hb dX4_image_12 (by decide) ?_
  refine va_put (D := D) (ci := 4) (v := .int (1 : Int32)) (ty := .boolean) (C := RX4) (T := TX4) (N := 16) hx hb hts i4 tyX4 tyX4_ok nmX4 hown hK hP hD hS 0 rfl rfl 4 (by decide) f239 (fun _ h9 => h9) rfl (by decide +kernel) rfl rfl (Nat.le_of_ble_eq_true rfl) dX4_image_13 (fun H locs hP hD hS => ?_)
  replace hP : va_P D vwCl (cM a cI ss mm u8_im wa (1 : Int32) le ro re lm rm pl nu gi bg bm sd) H := hP
  replace hD : va_D A (cM a cI ss mm u8_im wa (1 : Int32) le ro re lm rm pl nu gi bg bm sd) := hD
  refine lv_aload_n hx hb dX4_image_16 rfl (lv_at hl 0 rfl) ?_
  refine va_get (D := D) (ci := 4) (v := .ref (a 1)) (C := RX4) (T := TX4) (N := 16) hx hb hts i4 hown hK hP 0 rfl rfl 0 (by decide) f9 (fun _ h9 => h9) rfl dX4_image_17 ?_
  refine lv_iconst (v := 2) hx hb dX4_image_20 (by decide) ?_
  refine ald (n := 61) (f := ss) (k := 2) hx hb hK hP 1 0 rfl rfl (fx_lit rfl) rfl dX4_image_21 ?_
  obtain ⟨rfl, rfl, rfl⟩ := rtv3 h
  exact rI hQ hx hb hr hlocks hAe hP hS rfl rfl dX4_image_22
/-! X4_on -/
set_option maxHeartbeats 4000000 in
set_option maxRecDepth 100000 in
theorem c_X4_on (l : Launch) (D : va_G) (cI : ClassId) (a : Nat → Nat) (ss : (Nat → Int32)) (mm : (Nat → Int32)) (im : (Nat → Int32)) (wa : (Nat → Int32)) (hi : Int32) (le : (Nat → Int32)) (ro : (Nat → Int32)) (re : (Nat → Int32)) (lm : Int32) (rm : Int32) (pl : Int32) (nu : (Nat → Int32)) (gi : (Nat → Int32)) (bg : (Nat → Int32)) (bm : Int32) (sd : Int32)  (res : Int32) (u_ss : (Nat → Int32)) (u_re : (Nat → Int32)) (h : M_X4_on ss im hi re = some (res, u_ss, u_re)) : mI l yX4_on wsX4_on { frames := 1, cells := 0, slots := 0, locals := 22 } D cI [.ref (a 0)] (cM a cI ss mm im wa hi le ro re lm rm pl nu gi bg bm sd) (cM a cI u_ss mm im wa hi le ro u_re lm rm pl nu gi bg bm sd) res := by
  intro sz
  refine mStart (cc := cX4_on) (maxL := 1) (ret := (some .int)) (own := RX4) (by decide) rfl rfl (Nat.le_of_ble_eq_true rfl) (lv := [(0, .ref (a 0))]) rfl ?_
  intro p e s m args below meth c A ls Q H locs CF hr hlocks hK hP hD hS hA hAe hl hQ
  obtain ⟨hx, hb, hml, hown, hts⟩ := id CF
  have f9 := hts (.fieldLink RX4 9 "MendAnothersBreakingModel" "s" "[I") (List.mem_of_getElem? (i := 3) rfl)
  have f16 := hts (.fieldLink RX4 16 "MendAnothersBreakingModel" "image" "[I") (List.mem_of_getElem? (i := 2) rfl)
  have f239 := hts (.fieldLink RX4 239 "MendAnothersBreakingModel" "hasImage" "Z") (List.mem_of_getElem? (i := 1) rfl)
  have i4 : ∀ w ∈ wsX40, w ∈ wsX4_on := fun w h => List.mem_cons_of_mem _ (List.mem_append_right _ h)
  unfold M_X4_on at h
  refine lv_aload_n hx hb dX4_on_0 rfl (lv_at hl 0 rfl) ?_
  refine va_get (D := D) (ci := 4) (v := .int hi) (C := RX4) (T := TX4) (N := 16) hx hb hts i4 hown hK hP 0 rfl rfl 4 (by decide) f239 (fun _ h9 => h9) rfl dX4_on_1 ?_
  refine lv_if_ne (tgt := 14) hx hb dX4_on_4 (by decide) (fun c4 => ?_) (fun c4 => ?_)
  · replace h := fx_ite_f c4 h
    refine lv_aload_n hx hb dX4_on_14 rfl (lv_at hl 0 rfl) ?_
    refine va_get (D := D) (ci := 4) (v := .ref (a 3)) (C := RX4) (T := TX4) (N := 16) hx hb hts i4 hown hK hP 0 rfl rfl 2 (by decide) f16 (fun _ h9 => h9) rfl dX4_on_15 ?_
    refine lv_aload_n hx hb dX4_on_18 rfl (lv_at hl 0 rfl) ?_
    refine va_get (D := D) (ci := 4) (v := .ref (a 1)) (C := RX4) (T := TX4) (N := 16) hx hb hts i4 hown hK hP 0 rfl rfl 0 (by decide) f9 (fun _ h9 => h9) rfl dX4_on_19 ?_
    obtain ⟨u22_ss, q22, h⟩ := bnd1_inv h
    refine kSV (n := 2) (As := [.ref (a 3), .ref (a 1)]) (rest := []) CF hl hK hP hD hS hA (c_X4_copies l D cI (a 3) (a 1) im ss  u22_ss q22) gX4_on_X4_copies rfl dX4_on_22 (by decide +kernel) ⟨⟨rfl, rfl⟩, ⟨Nat.le_of_ble_eq_true rfl, Nat.le_of_ble_eq_true rfl⟩, Nat.zero_le _, Nat.zero_le _⟩ (JN.sub (wst' := (cM a cI u22_ss mm im wa hi le ro re lm rm pl nu gi bg bm sd)) [3, 1] rfl rfl rfl rfl) rfl rfl (Nat.le_of_ble_eq_true rfl) (fun H locs hP hD hS => ?_)
    replace hP : va_P D vwCl (cM a cI u22_ss mm im wa hi le ro re lm rm pl nu gi bg bm sd) H := hP
    replace hD : va_D A (cM a cI u22_ss mm im wa hi le ro re lm rm pl nu gi bg bm sd) := hD
    refine lv_aload_n hx hb dX4_on_25 rfl (lv_at hl 0 rfl) ?_
    refine va_get (D := D) (ci := 4) (v := .ref (a 1)) (C := RX4) (T := TX4) (N := 16) hx hb hts i4 hown hK hP 0 rfl rfl 0 (by decide) f9 (fun _ h9 => h9) rfl dX4_on_26 ?_
    refine lv_iconst (v := 2) hx hb dX4_on_29 (by decide) ?_
    refine ald (n := 61) (f := u22_ss) (k := 2) hx hb hK hP 1 0 rfl rfl (fx_lit rfl) rfl dX4_on_30 ?_
    obtain ⟨rfl, rfl, rfl⟩ := rtv3 h
    exact rI hQ hx hb hr hlocks hAe hP hS rfl rfl dX4_on_31
  · replace h := fx_ite_t c4 h
    refine lv_aload_n hx hb dX4_on_7 rfl (lv_at hl 0 rfl) ?_
    refine lv_bipush (v := (-3)) hx hb dX4_on_8 (by decide) ?_
    obtain ⟨r10, u10_re, q10, h⟩ := bnd2_inv h
    refine kVI (n := 1) (As := [.int (-3 : Int32)]) (rest := []) CF hl hK hP hD hS hA (c_X4_no l D cI a ss mm im wa hi le ro re lm rm pl nu gi bg bm sd (-3 : Int32) r10 u10_re q10) gX4_on_X4_no rfl dX4_on_10 (by decide +kernel) ⟨⟨rfl, rfl⟩, ⟨Nat.le_of_ble_eq_true rfl, Nat.le_of_ble_eq_true rfl⟩, Nat.zero_le _, Nat.zero_le _⟩ (JN.whole (w1 := (cM a cI ss mm im wa hi le ro u10_re lm rm pl nu gi bg bm sd)) rfl) 0 rfl ⟨rfl, rfl⟩ rfl rfl (Nat.le_of_ble_eq_true rfl) (fun H locs hP hD hS => ?_)
    replace hP : va_P D vwCl (cM a cI ss mm im wa hi le ro u10_re lm rm pl nu gi bg bm sd) H := hP
    replace hD : va_D A (cM a cI ss mm im wa hi le ro u10_re lm rm pl nu gi bg bm sd) := hD
    obtain ⟨rfl, rfl, rfl⟩ := rtv3 h
    exact rI hQ hx hb hr hlocks hAe hP hS rfl rfl dX4_on_13
/-! X4_count -/
set_option maxHeartbeats 4000000 in
set_option maxRecDepth 100000 in
theorem c_X4_count (l : Launch) (D : va_G) (cI : ClassId) (a : Nat → Nat) (ss : (Nat → Int32)) (mm : (Nat → Int32)) (im : (Nat → Int32)) (wa : (Nat → Int32)) (hi : Int32) (le : (Nat → Int32)) (ro : (Nat → Int32)) (re : (Nat → Int32)) (lm : Int32) (rm : Int32) (pl : Int32) (nu : (Nat → Int32)) (gi : (Nat → Int32)) (bg : (Nat → Int32)) (bm : Int32) (sd : Int32) (p1 : Int32) (res : Int32) (h : M_X4_count ss re lm rm p1 = some res) : mI l yX4_count wsX4_count { frames := 3, cells := 0, slots := 0, locals := 63 } D cI [.ref (a 0), .int p1] (cM a cI ss mm im wa hi le ro re lm rm pl nu gi bg bm sd) (cM a cI ss mm im wa hi le ro re lm rm pl nu gi bg bm sd) res := by
  intro sz
  refine mStart (cc := cX4_count) (maxL := 4) (ret := (some .int)) (own := RX4) (by decide) rfl rfl (Nat.le_of_ble_eq_true rfl) (lv := [(0, .ref (a 0)), (1, .int p1)]) rfl ?_
  intro p e s m args below meth c A ls Q H locs CF hr hlocks hK hP hD hS hA hAe hl hQ
  obtain ⟨hx, hb, hml, hown, hts⟩ := id CF
  have f9 := hts (.fieldLink RX4 9 "MendAnothersBreakingModel" "s" "[I") (List.mem_of_getElem? (i := 2) rfl)
  have f28 := hts (.fieldLink RX4 28 "MendAnothersBreakingModel" "refused" "[I") (List.mem_of_getElem? (i := 1) rfl)
  have f101 := hts (.fieldLink RX4 101 "MendAnothersBreakingModel" "letterMany" "I") (List.mem_of_getElem? (i := 4) rfl)
  have f227 := hts (.fieldLink RX4 227 "MendAnothersBreakingModel" "rowMany" "I") (List.mem_of_getElem? (i := 3) rfl)
  have i4 : ∀ w ∈ wsX40, w ∈ wsX4_count := fun w h => List.mem_cons_of_mem _ (List.mem_append_right _ h)
  have L86 : ∀ (n : Nat)  (x2 : Int32) (x3 : Int32), fuel (fun _ _ => none) (B_X4_count_86 ss re lm rm) n x2 x3 = some res → 
      ∀ (H : Heap) (locs : List Loc) (ls : Array Slot), va_P D vwCl (cM a cI ss mm im wa hi le ro re lm rm pl nu gi bg bm sd) H → va_D A (cM a cI ss mm im wa hi le ro re lm rm pl nu gi bg bm sd) → va_S A s.heap H locs → lv_has ls 4 [(0, .ref (a 0)), (2, .int x2), (3, .int x3)] → W p l e { frames := 3, cells := 0, slots := 0, locals := 63 } s m args below meth c H locs 0 0 Q (F0 m 86 ls []) := by
    intro n
    induction n with
    | zero =>
      intro x2 x3 h
      exact nomatch (show (none : Option (Int32)) = some res from h)
    | succ n ih =>
      intro x2 x3 h  H locs ls hP hD hS hl
      replace h : B_X4_count_86 ss re lm rm (fuel (fun _ _ => none) (B_X4_count_86 ss re lm rm) n) x2 x3 = some res := h
      unfold B_X4_count_86 at h
      refine lv_iload_n hx hb dX4_count_86 rfl (lv_at hl 2 rfl) ?_
      refine lv_aload_n hx hb dX4_count_87 rfl (lv_at hl 0 rfl) ?_
      refine va_get (D := D) (ci := 4) (v := .ref (a 1)) (C := RX4) (T := TX4) (N := 16) hx hb hts i4 hown hK hP 0 rfl rfl 0 (by decide) f9 (fun _ h9 => h9) rfl dX4_count_88 ?_
      refine lv_iconst (v := 1) hx hb dX4_count_91 (by decide) ?_
      refine ald (n := 61) (f := ss) (k := 1) hx hb hK hP 1 0 rfl rfl (fx_lit rfl) rfl dX4_count_92 ?_
      refine lv_icmp_ge (tgt := 116) hx hb dX4_count_93 (by decide) (fun c93 => ?_) (fun c93 => ?_)
      · replace h := fx_ite_t c93 h
        refine lv_iload_n hx hb dX4_count_116 rfl (lv_at hl 1 rfl) ?_
        obtain rfl := rtv1 h
        exact rI hQ hx hb hr hlocks hAe hP hS rfl rfl dX4_count_117
      · replace h := fx_ite_f c93 h
        refine lv_iload_n hx hb dX4_count_96 rfl (lv_at hl 1 rfl) ?_
        refine lv_aload_n hx hb dX4_count_97 rfl (lv_at hl 0 rfl) ?_
        refine va_get (D := D) (ci := 4) (v := .ref (a 1)) (C := RX4) (T := TX4) (N := 16) hx hb hts i4 hown hK hP 0 rfl rfl 0 (by decide) f9 (fun _ h9 => h9) rfl dX4_count_98 ?_
        refine lv_iload_n hx hb dX4_count_101 rfl (lv_at hl 2 rfl) ?_
        obtain ⟨r102, q102, h⟩ := bnd1_inv h
        refine kSI (n := 1) (As := [.int x3]) (rest := [.ref (a 1), .int x2]) CF hl hK hP hD hS hA (c_X4_ofT l D cI   x3 r102 q102) gX4_count_X4_ofT rfl dX4_count_102 (by decide +kernel) ⟨⟨rfl, rfl⟩, ⟨Nat.le_of_ble_eq_true rfl, Nat.le_of_ble_eq_true rfl⟩, Nat.zero_le _, Nat.zero_le _⟩ (JN.ro [] rfl rfl) rfl rfl (Nat.le_of_ble_eq_true rfl) (fun H locs hP hD hS => ?_)
        refine lv_iconst (v := 3) hx hb dX4_count_105 (by decide) ?_
        refine lv_iadd hx hb dX4_count_106 ?_
        obtain ⟨g107, h⟩ := chk_inv h
        refine va_iald (n := 61) (f := ss) hx hb hK hP 1 0 rfl rfl g107 dX4_count_107 ?_
        refine lv_iadd hx hb dX4_count_108 ?_
        refine lv_istore_n (lv' := [(2, .int (x2 + (ss (Int32.toNatClampNeg (r102 + (3 : Int32)))))), (0, .ref (a 0)), (3, .int x3)]) hx hb dX4_count_109 rfl hl (by decide) rfl (fun ls hl => ?_)
        refine lv_iinc (v := (x3 + 1)) (lv' := [(3, .int (x3 + 1)), (2, .int (x2 + (ss (Int32.toNatClampNeg (r102 + (3 : Int32)))))), (0, .ref (a 0))]) hx hb dX4_count_110 hl (k := 2) rfl (by first | rfl | decide) (by decide) rfl (fun ls hl => ?_)
        refine lv_goto (tgt := 86) hx hb dX4_count_113 (by decide) ?_
        exact ih _ _ h  _ _ _ hP hD hS (lv_sub hl [2, 1, 0] rfl)
  unfold M_X4_count at h
  refine lv_iload_n hx hb dX4_count_0 rfl (lv_at hl 1 rfl) ?_
  refine lv_bipush (v := 11) hx hb dX4_count_1 (by decide) ?_
  refine lv_bipush (v := 16) hx hb dX4_count_3 (by decide) ?_
  obtain ⟨r5, q5, h⟩ := bnd1_inv h
  refine kSI (n := 3) (As := [.int p1, .int (11 : Int32), .int (16 : Int32)]) (rest := []) CF hl hK hP hD hS hA (c_X4_isIn l D cI   p1 (11 : Int32) (16 : Int32) r5 q5) gX4_count_X4_isIn rfl dX4_count_5 (by decide +kernel) ⟨⟨rfl, rfl⟩, ⟨Nat.le_of_ble_eq_true rfl, Nat.le_of_ble_eq_true rfl⟩, Nat.zero_le _, Nat.zero_le _⟩ (JN.ro [] rfl rfl) rfl rfl (Nat.le_of_ble_eq_true rfl) (fun H locs hP hD hS => ?_)
  refine lv_if_eq (tgt := 21) hx hb dX4_count_8 (by decide) (fun c8 => ?_) (fun c8 => ?_)
  · replace h := fx_ite_t c8 h
    refine lv_iload_n hx hb dX4_count_21 rfl (lv_at hl 1 rfl) ?_
    refine lv_iconst (v := 0) hx hb dX4_count_22 (by decide) ?_
    refine lv_iconst (v := 2) hx hb dX4_count_23 (by decide) ?_
    obtain ⟨r24, q24, h⟩ := bnd1_inv h
    refine kSI (n := 3) (As := [.int p1, .int (0 : Int32), .int (2 : Int32)]) (rest := []) CF hl hK hP hD hS hA (c_X4_isIn l D cI   p1 (0 : Int32) (2 : Int32) r24 q24) gX4_count_X4_isIn rfl dX4_count_24 (by decide +kernel) ⟨⟨rfl, rfl⟩, ⟨Nat.le_of_ble_eq_true rfl, Nat.le_of_ble_eq_true rfl⟩, Nat.zero_le _, Nat.zero_le _⟩ (JN.ro [] rfl rfl) rfl rfl (Nat.le_of_ble_eq_true rfl) (fun H locs hP hD hS => ?_)
    refine lv_if_eq (tgt := 37) hx hb dX4_count_27 (by decide) (fun c27 => ?_) (fun c27 => ?_)
    · replace h := fx_ite_t c27 h
      refine lv_iconst (v := 0) hx hb dX4_count_37 (by decide) ?_
      refine lv_istore_n (lv' := [(2, .int (0 : Int32)), (0, .ref (a 0)), (1, .int p1)]) hx hb dX4_count_38 rfl hl (by decide) rfl (fun ls hl => ?_)
      refine lv_iload_n hx hb dX4_count_39 rfl (lv_at hl 2 rfl) ?_
      by_cases s40_3 : p1 = 3
      · replace h := fx_ite_t s40_3 h
        refine lv_tableIn (tgt := 76) hx hb dX4_count_40 (by rw [s40_3]; decide) (by rw [s40_3]; decide) (off := 36) (by rw [s40_3]; rfl) (by decide) ?_
        refine lv_aload_n hx hb dX4_count_76 rfl (lv_at hl 1 rfl) ?_
        refine va_get (D := D) (ci := 4) (v := .ref (a 1)) (C := RX4) (T := TX4) (N := 16) hx hb hts i4 hown hK hP 0 rfl rfl 0 (by decide) f9 (fun _ h9 => h9) rfl dX4_count_77 ?_
        obtain ⟨r80, q80, h⟩ := bnd1_inv h
        refine kSI (n := 1) (As := [.ref (a 1)]) (rest := []) CF hl hK hP hD hS hA (c_X4_wholeSet l D cI (a 1) ss  r80 q80) gX4_count_X4_wholeSet rfl dX4_count_80 (by decide +kernel) ⟨⟨rfl, rfl⟩, ⟨Nat.le_of_ble_eq_true rfl, Nat.le_of_ble_eq_true rfl⟩, Nat.zero_le _, Nat.zero_le _⟩ (JN.ro [1] rfl rfl) rfl rfl (Nat.le_of_ble_eq_true rfl) (fun H locs hP hD hS => ?_)
        obtain rfl := rtv1 h
        exact rI hQ hx hb hr hlocks hAe hP hS rfl rfl dX4_count_83
      replace h := fx_ite_f s40_3 h
      by_cases s40_4 : p1 = 4
      · replace h := fx_ite_t s40_4 h
        refine lv_tableIn (tgt := 84) hx hb dX4_count_40 (by rw [s40_4]; decide) (by rw [s40_4]; decide) (off := 44) (by rw [s40_4]; rfl) (by decide) ?_
        refine lv_iconst (v := 0) hx hb dX4_count_84 (by decide) ?_
        refine lv_istore_n (lv' := [(3, .int (0 : Int32)), (2, .int (0 : Int32)), (0, .ref (a 0)), (1, .int p1)]) hx hb dX4_count_85 rfl hl (by decide) rfl (fun ls hl => ?_)
        exact L86 FU _ _ h  _ _ _ hP hD hS (lv_sub hl [2, 1, 0] rfl)
      replace h := fx_ite_f s40_4 h
      by_cases s40_5 : p1 = 5
      · replace h := fx_ite_t s40_5 h
        refine lv_tableIn (tgt := 118) hx hb dX4_count_40 (by rw [s40_5]; decide) (by rw [s40_5]; decide) (off := 78) (by rw [s40_5]; rfl) (by decide) ?_
        refine lv_aload_n hx hb dX4_count_118 rfl (lv_at hl 1 rfl) ?_
        refine va_get (D := D) (ci := 4) (v := .ref (a 1)) (C := RX4) (T := TX4) (N := 16) hx hb hts i4 hown hK hP 0 rfl rfl 0 (by decide) f9 (fun _ h9 => h9) rfl dX4_count_119 ?_
        obtain ⟨r122, q122, h⟩ := bnd1_inv h
        refine kSI (n := 1) (As := [.ref (a 1)]) (rest := []) CF hl hK hP hD hS hA (c_X4_mendedAll l D cI (a 1) ss  r122 q122) gX4_count_X4_mendedAll rfl dX4_count_122 (by decide +kernel) ⟨⟨rfl, rfl⟩, ⟨Nat.le_of_ble_eq_true rfl, Nat.le_of_ble_eq_true rfl⟩, Nat.zero_le _, Nat.zero_le _⟩ (JN.ro [1] rfl rfl) rfl rfl (Nat.le_of_ble_eq_true rfl) (fun H locs hP hD hS => ?_)
        obtain rfl := rtv1 h
        exact rI hQ hx hb hr hlocks hAe hP hS rfl rfl dX4_count_125
      replace h := fx_ite_f s40_5 h
      by_cases s40_6 : p1 = 6
      · replace h := fx_ite_t s40_6 h
        refine lv_tableIn (tgt := 126) hx hb dX4_count_40 (by rw [s40_6]; decide) (by rw [s40_6]; decide) (off := 86) (by rw [s40_6]; rfl) (by decide) ?_
        refine lv_aload_n hx hb dX4_count_126 rfl (lv_at hl 1 rfl) ?_
        refine va_get (D := D) (ci := 4) (v := .int rm) (C := RX4) (T := TX4) (N := 16) hx hb hts i4 hown hK hP 0 rfl rfl 9 (by decide) f227 (fun _ h9 => h9) rfl dX4_count_127 ?_
        obtain rfl := rtv1 h
        exact rI hQ hx hb hr hlocks hAe hP hS rfl rfl dX4_count_130
      replace h := fx_ite_f s40_6 h
      by_cases s40_7 : p1 = 7
      · replace h := fx_ite_t s40_7 h
        refine lv_tableIn (tgt := 131) hx hb dX4_count_40 (by rw [s40_7]; decide) (by rw [s40_7]; decide) (off := 91) (by rw [s40_7]; rfl) (by decide) ?_
        refine lv_aload_n hx hb dX4_count_131 rfl (lv_at hl 1 rfl) ?_
        refine va_get (D := D) (ci := 4) (v := .int lm) (C := RX4) (T := TX4) (N := 16) hx hb hts i4 hown hK hP 0 rfl rfl 8 (by decide) f101 (fun _ h9 => h9) rfl dX4_count_132 ?_
        obtain rfl := rtv1 h
        exact rI hQ hx hb hr hlocks hAe hP hS rfl rfl dX4_count_135
      replace h := fx_ite_f s40_7 h
      refine lv_tableOut (tgt := 136) hx hb dX4_count_40 (by have a_s40_3 : Int32.toInt p1 ≠ 3 := fx_toInt_ne s40_3; have a_s40_4 : Int32.toInt p1 ≠ 4 := fx_toInt_ne s40_4; have a_s40_5 : Int32.toInt p1 ≠ 5 := fx_toInt_ne s40_5; have a_s40_6 : Int32.toInt p1 ≠ 6 := fx_toInt_ne s40_6; have a_s40_7 : Int32.toInt p1 ≠ 7 := fx_toInt_ne s40_7; omega) (by decide) ?_
      refine lv_bipush (v := (-9)) hx hb dX4_count_136 (by decide) ?_
      obtain rfl := rtv1 h
      exact rI hQ hx hb hr hlocks hAe hP hS rfl rfl dX4_count_138
    · replace h := fx_ite_f c27 h
      refine lv_aload_n hx hb dX4_count_30 rfl (lv_at hl 0 rfl) ?_
      refine va_get (D := D) (ci := 4) (v := .ref (a 1)) (C := RX4) (T := TX4) (N := 16) hx hb hts i4 hown hK hP 0 rfl rfl 0 (by decide) f9 (fun _ h9 => h9) rfl dX4_count_31 ?_
      refine lv_iload_n hx hb dX4_count_34 rfl (lv_at hl 1 rfl) ?_
      obtain ⟨g35, h⟩ := chk_inv h
      refine va_iald (n := 61) (f := ss) hx hb hK hP 1 0 rfl rfl g35 dX4_count_35 ?_
      obtain rfl := rtv1 h
      exact rI hQ hx hb hr hlocks hAe hP hS rfl rfl dX4_count_36
  · replace h := fx_ite_f c8 h
    refine lv_aload_n hx hb dX4_count_11 rfl (lv_at hl 0 rfl) ?_
    refine va_get (D := D) (ci := 4) (v := .ref (a 7)) (C := RX4) (T := TX4) (N := 16) hx hb hts i4 hown hK hP 0 rfl rfl 7 (by decide) f28 (fun _ h9 => h9) rfl dX4_count_12 ?_
    refine lv_iload_n hx hb dX4_count_15 rfl (lv_at hl 1 rfl) ?_
    refine lv_bipush (v := 10) hx hb dX4_count_16 (by decide) ?_
    refine lv_isub hx hb dX4_count_18 ?_
    obtain ⟨g19, h⟩ := chk_inv h
    refine va_iald (n := 7) (f := re) hx hb hK hP 7 0 rfl rfl g19 dX4_count_19 ?_
    obtain rfl := rtv1 h
    exact rI hQ hx hb hr hlocks hAe hP hS rfl rfl dX4_count_20
