/-! X4_again -/
set_option maxHeartbeats 4000000 in
set_option maxRecDepth 100000 in
theorem c_X4_again (l : Launch) (D : va_G) (cI : ClassId) (a : Nat → Nat) (ss : (Nat → Int32)) (mm : (Nat → Int32)) (im : (Nat → Int32)) (wa : (Nat → Int32)) (hi : Int32) (le : (Nat → Int32)) (ro : (Nat → Int32)) (re : (Nat → Int32)) (lm : Int32) (rm : Int32) (pl : Int32) (nu : (Nat → Int32)) (gi : (Nat → Int32)) (bg : (Nat → Int32)) (bm : Int32) (sd : Int32) (p1 : Int32) (p2 : Int32) (res : Int32) (u_mm : (Nat → Int32)) (u_re : (Nat → Int32)) (h : M_X4_again ss mm re p1 p2 = some (res, u_mm, u_re)) : mI l yX4_again wsX4_again { frames := 8, cells := 0, slots := 0, locals := 179 } D cI [.ref (a 0), .int p1, .int p2] (cM a cI ss mm im wa hi le ro re lm rm pl nu gi bg bm sd) (cM a cI ss u_mm im wa hi le ro u_re lm rm pl nu gi bg bm sd) res := by
  intro sz
  refine mStart (cc := cX4_again) (maxL := 3) (ret := (some .int)) (own := RX4) (by decide) rfl rfl (Nat.le_of_ble_eq_true rfl) (lv := [(0, .ref (a 0)), (1, .int p1), (2, .int p2)]) rfl ?_
  intro p e s m args below meth c A ls Q H locs CF hr hlocks hK hP hD hS hA hAe hl hQ
  obtain ⟨hx, hb, hml, hown, hts⟩ := id CF
  unfold M_X4_again at h
  refine lv_aload_n hx hb dX4_again_0 rfl (lv_at hl 0 rfl) ?_
  refine lv_iload_n hx hb dX4_again_1 rfl (lv_at hl 1 rfl) ?_
  obtain ⟨r2, q2, h⟩ := bnd1_inv h
  refine kVI (n := 1) (As := [.int p1]) (rest := []) CF hl hK hP hD hS hA (c_X4_isThing l D cI a ss mm im wa hi le ro re lm rm pl nu gi bg bm sd p1 r2 q2) gX4_again_X4_isThing rfl dX4_again_2 (by decide +kernel) ⟨⟨rfl, rfl⟩, ⟨Nat.le_of_ble_eq_true rfl, Nat.le_of_ble_eq_true rfl⟩, Nat.zero_le _, Nat.zero_le _⟩ (JN.whole rfl) 0 rfl ⟨rfl, rfl⟩ rfl rfl (Nat.le_of_ble_eq_true rfl) (fun H locs hP hD hS => ?_)
  replace hP : va_P D vwCl (cM a cI ss mm im wa hi le ro re lm rm pl nu gi bg bm sd) H := hP
  replace hD : va_D A (cM a cI ss mm im wa hi le ro re lm rm pl nu gi bg bm sd) := hD
  refine lv_if_ne (tgt := 14) hx hb dX4_again_5 (by decide) (fun c5 => ?_) (fun c5 => ?_)
  · replace h := fx_ite_f c5 h
    refine lv_iload_n hx hb dX4_again_14 rfl (lv_at hl 2 rfl) ?_
    refine lv_iconst (v := 0) hx hb dX4_again_15 (by decide) ?_
    refine lv_iconst (v := 1) hx hb dX4_again_16 (by decide) ?_
    obtain ⟨r17, q17, h⟩ := bnd1_inv h
    refine kSI (n := 3) (As := [.int p2, .int (0 : Int32), .int (1 : Int32)]) (rest := []) CF hl hK hP hD hS hA (c_X4_isIn l D cI   p2 (0 : Int32) (1 : Int32) r17 q17) gX4_again_X4_isIn rfl dX4_again_17 (by decide +kernel) ⟨⟨rfl, rfl⟩, ⟨Nat.le_of_ble_eq_true rfl, Nat.le_of_ble_eq_true rfl⟩, Nat.zero_le _, Nat.zero_le _⟩ (JN.ro [] rfl rfl) rfl rfl (Nat.le_of_ble_eq_true rfl) (fun H locs hP hD hS => ?_)
    refine lv_if_eq (tgt := 42) hx hb dX4_again_20 (by decide) (fun c20 => ?_) (fun c20 => ?_)
    · replace h := fx_ite_t c20 h
      refine lv_aload_n hx hb dX4_again_42 rfl (lv_at hl 0 rfl) ?_
      refine lv_bipush (v := (-2)) hx hb dX4_again_43 (by decide) ?_
      obtain ⟨r45, u45_re, q45, h⟩ := bnd2_inv h
      refine kVI (n := 1) (As := [.int (-2 : Int32)]) (rest := []) CF hl hK hP hD hS hA (c_X4_no l D cI a ss mm im wa hi le ro re lm rm pl nu gi bg bm sd (-2 : Int32) r45 u45_re q45) gX4_again_X4_no rfl dX4_again_45 (by decide +kernel) ⟨⟨rfl, rfl⟩, ⟨Nat.le_of_ble_eq_true rfl, Nat.le_of_ble_eq_true rfl⟩, Nat.zero_le _, Nat.zero_le _⟩ (JN.whole (w1 := (cM a cI ss mm im wa hi le ro u45_re lm rm pl nu gi bg bm sd)) rfl) 0 rfl ⟨rfl, rfl⟩ rfl rfl (Nat.le_of_ble_eq_true rfl) (fun H locs hP hD hS => ?_)
      replace hP : va_P D vwCl (cM a cI ss mm im wa hi le ro u45_re lm rm pl nu gi bg bm sd) H := hP
      replace hD : va_D A (cM a cI ss mm im wa hi le ro u45_re lm rm pl nu gi bg bm sd) := hD
      obtain ⟨rfl, rfl, rfl⟩ := rtv3 h
      exact rI hQ hx hb hr hlocks hAe hP hS rfl rfl dX4_again_48
    · replace h := fx_ite_f c20 h
      refine lv_aload_n hx hb dX4_again_23 rfl (lv_at hl 0 rfl) ?_
      refine lv_iconst (v := 1) hx hb dX4_again_24 (by decide) ?_
      refine lv_iload_n hx hb dX4_again_25 rfl (lv_at hl 1 rfl) ?_
      refine lv_ishl hx hb dX4_again_26 ?_
      refine lv_iload_n hx hb dX4_again_27 rfl (lv_at hl 2 rfl) ?_
      refine lv_if_ne (tgt := 35) hx hb dX4_again_28 (by decide) (fun c28 => ?_) (fun c28 => ?_)
      · replace h := fx_ite_f c28 h
        refine lv_iconst (v := 0) hx hb dX4_again_35 (by decide) ?_
        obtain ⟨r36, u36_mm, q36, h⟩ := bnd2_inv h
        refine kVI (n := 2) (As := [.int ((1 : Int32) <<< (p1 &&& 31)), .int (0 : Int32)]) (rest := []) CF hl hK hP hD hS hA (c_X4_whenOf l D cI a ss mm im wa hi le ro re lm rm pl nu gi bg bm sd ((1 : Int32) <<< (p1 &&& 31)) (0 : Int32) r36 u36_mm q36) gX4_again_X4_whenOf rfl dX4_again_36 (by decide +kernel) ⟨⟨rfl, rfl⟩, ⟨Nat.le_of_ble_eq_true rfl, Nat.le_of_ble_eq_true rfl⟩, Nat.zero_le _, Nat.zero_le _⟩ (JN.whole (w1 := (cM a cI ss u36_mm im wa hi le ro re lm rm pl nu gi bg bm sd)) rfl) 0 rfl ⟨rfl, rfl⟩ rfl rfl (Nat.le_of_ble_eq_true rfl) (fun H locs hP hD hS => ?_)
        replace hP : va_P D vwCl (cM a cI ss u36_mm im wa hi le ro re lm rm pl nu gi bg bm sd) H := hP
        replace hD : va_D A (cM a cI ss u36_mm im wa hi le ro re lm rm pl nu gi bg bm sd) := hD
        refine lv_goto (tgt := 48) hx hb dX4_again_39 (by decide) ?_
        obtain ⟨rfl, rfl, rfl⟩ := rtv3 h
        exact rI hQ hx hb hr hlocks hAe hP hS rfl rfl dX4_again_48
      · replace h := fx_ite_t c28 h
        refine lv_iconst (v := 1) hx hb dX4_again_31 (by decide) ?_
        refine lv_goto (tgt := 36) hx hb dX4_again_32 (by decide) ?_
        obtain ⟨r36, u36_mm, q36, h⟩ := bnd2_inv h
        refine kVI (n := 2) (As := [.int ((1 : Int32) <<< (p1 &&& 31)), .int (1 : Int32)]) (rest := []) CF hl hK hP hD hS hA (c_X4_whenOf l D cI a ss mm im wa hi le ro re lm rm pl nu gi bg bm sd ((1 : Int32) <<< (p1 &&& 31)) (1 : Int32) r36 u36_mm q36) gX4_again_X4_whenOf rfl dX4_again_36 (by decide +kernel) ⟨⟨rfl, rfl⟩, ⟨Nat.le_of_ble_eq_true rfl, Nat.le_of_ble_eq_true rfl⟩, Nat.zero_le _, Nat.zero_le _⟩ (JN.whole (w1 := (cM a cI ss u36_mm im wa hi le ro re lm rm pl nu gi bg bm sd)) rfl) 0 rfl ⟨rfl, rfl⟩ rfl rfl (Nat.le_of_ble_eq_true rfl) (fun H locs hP hD hS => ?_)
        replace hP : va_P D vwCl (cM a cI ss u36_mm im wa hi le ro re lm rm pl nu gi bg bm sd) H := hP
        replace hD : va_D A (cM a cI ss u36_mm im wa hi le ro re lm rm pl nu gi bg bm sd) := hD
        refine lv_goto (tgt := 48) hx hb dX4_again_39 (by decide) ?_
        obtain ⟨rfl, rfl, rfl⟩ := rtv3 h
        exact rI hQ hx hb hr hlocks hAe hP hS rfl rfl dX4_again_48
  · replace h := fx_ite_t c5 h
    refine lv_aload_n hx hb dX4_again_8 rfl (lv_at hl 0 rfl) ?_
    refine lv_iconst (v := (-1)) hx hb dX4_again_9 (by decide) ?_
    obtain ⟨r10, u10_re, q10, h⟩ := bnd2_inv h
    refine kVI (n := 1) (As := [.int (-1 : Int32)]) (rest := []) CF hl hK hP hD hS hA (c_X4_no l D cI a ss mm im wa hi le ro re lm rm pl nu gi bg bm sd (-1 : Int32) r10 u10_re q10) gX4_again_X4_no rfl dX4_again_10 (by decide +kernel) ⟨⟨rfl, rfl⟩, ⟨Nat.le_of_ble_eq_true rfl, Nat.le_of_ble_eq_true rfl⟩, Nat.zero_le _, Nat.zero_le _⟩ (JN.whole (w1 := (cM a cI ss mm im wa hi le ro u10_re lm rm pl nu gi bg bm sd)) rfl) 0 rfl ⟨rfl, rfl⟩ rfl rfl (Nat.le_of_ble_eq_true rfl) (fun H locs hP hD hS => ?_)
    replace hP : va_P D vwCl (cM a cI ss mm im wa hi le ro u10_re lm rm pl nu gi bg bm sd) H := hP
    replace hD : va_D A (cM a cI ss mm im wa hi le ro u10_re lm rm pl nu gi bg bm sd) := hD
    obtain ⟨rfl, rfl, rfl⟩ := rtv3 h
    exact rI hQ hx hb hr hlocks hAe hP hS rfl rfl dX4_again_13
/-! X4_mourned -/
set_option maxHeartbeats 4000000 in
set_option maxRecDepth 100000 in
theorem c_X4_mourned (l : Launch) (D : va_G) (cI : ClassId) (a : Nat → Nat) (ss : (Nat → Int32)) (mm : (Nat → Int32)) (im : (Nat → Int32)) (wa : (Nat → Int32)) (hi : Int32) (le : (Nat → Int32)) (ro : (Nat → Int32)) (re : (Nat → Int32)) (lm : Int32) (rm : Int32) (pl : Int32) (nu : (Nat → Int32)) (gi : (Nat → Int32)) (bg : (Nat → Int32)) (bm : Int32) (sd : Int32) (p1 : Int32) (res : Int32) (u_mm : (Nat → Int32)) (u_re : (Nat → Int32)) (h : M_X4_mourned ss mm re p1 = some (res, u_mm, u_re)) : mI l yX4_mourned wsX4_mourned { frames := 8, cells := 0, slots := 0, locals := 179 } D cI [.ref (a 0), .int p1] (cM a cI ss mm im wa hi le ro re lm rm pl nu gi bg bm sd) (cM a cI ss u_mm im wa hi le ro u_re lm rm pl nu gi bg bm sd) res := by
  intro sz
  refine mStart (cc := cX4_mourned) (maxL := 4) (ret := (some .int)) (own := RX4) (by decide) rfl rfl (Nat.le_of_ble_eq_true rfl) (lv := [(0, .ref (a 0)), (1, .int p1)]) rfl ?_
  intro p e s m args below meth c A ls Q H locs CF hr hlocks hK hP hD hS hA hAe hl hQ
  obtain ⟨hx, hb, hml, hown, hts⟩ := id CF
  have f9 := hts (.fieldLink RX4 9 "MendAnothersBreakingModel" "s" "[I") (List.mem_of_getElem? (i := 1) rfl)
  have i4 : ∀ w ∈ wsX40, w ∈ wsX4_mourned := fun w h => List.mem_cons_of_mem _ (List.mem_append_right _ h)
  have L41 : ∀ (n : Nat) (mm : (Nat → Int32)) (re : (Nat → Int32)) (x2 : Int32) (x3 : Int32), fuel (fun _ _ => none) (B_X4_mourned_41 ss mm re) n x2 x3 = some (res, u_mm, u_re) → 
      ∀ (H : Heap) (locs : List Loc) (ls : Array Slot), va_P D vwCl (cM a cI ss mm im wa hi le ro re lm rm pl nu gi bg bm sd) H → va_D A (cM a cI ss mm im wa hi le ro re lm rm pl nu gi bg bm sd) → va_S A s.heap H locs → lv_has ls 4 [(0, .ref (a 0)), (2, .int x2), (3, .int x3)] → W p l e { frames := 8, cells := 0, slots := 0, locals := 179 } s m args below meth c H locs 0 0 Q (F0 m 41 ls []) := by
    intro n
    induction n with
    | zero =>
      intro mm re x2 x3 h
      exact nomatch (show (none : Option (Int32 × (Nat → Int32) × (Nat → Int32))) = some (res, u_mm, u_re) from h)
    | succ n ih =>
      intro mm re x2 x3 h  H locs ls hP hD hS hl
      replace h : B_X4_mourned_41 ss mm re (fuel (fun _ _ => none) (B_X4_mourned_41 ss mm re) n) x2 x3 = some (res, u_mm, u_re) := h
      unfold B_X4_mourned_41 at h
      refine lv_iload_n hx hb dX4_mourned_41 rfl (lv_at hl 2 rfl) ?_
      refine lv_aload_n hx hb dX4_mourned_42 rfl (lv_at hl 0 rfl) ?_
      refine va_get (D := D) (ci := 4) (v := .ref (a 1)) (C := RX4) (T := TX4) (N := 16) hx hb hts i4 hown hK hP 0 rfl rfl 0 (by decide) f9 (fun _ h9 => h9) rfl dX4_mourned_43 ?_
      refine lv_iconst (v := 1) hx hb dX4_mourned_46 (by decide) ?_
      refine ald (n := 61) (f := ss) (k := 1) hx hb hK hP 1 0 rfl rfl (fx_lit rfl) rfl dX4_mourned_47 ?_
      refine lv_icmp_ge (tgt := 83) hx hb dX4_mourned_48 (by decide) (fun c48 => ?_) (fun c48 => ?_)
      · replace h := fx_ite_t c48 h
        refine lv_iload_n hx hb dX4_mourned_83 rfl (lv_at hl 1 rfl) ?_
        obtain ⟨rfl, rfl, rfl⟩ := rtv3 h
        exact rI hQ hx hb hr hlocks hAe hP hS rfl rfl dX4_mourned_84
      · replace h := fx_ite_f c48 h
        refine lv_iload_n hx hb dX4_mourned_51 rfl (lv_at hl 1 rfl) ?_
        refine lv_aload_n hx hb dX4_mourned_52 rfl (lv_at hl 0 rfl) ?_
        refine va_get (D := D) (ci := 4) (v := .ref (a 1)) (C := RX4) (T := TX4) (N := 16) hx hb hts i4 hown hK hP 0 rfl rfl 0 (by decide) f9 (fun _ h9 => h9) rfl dX4_mourned_53 ?_
        refine lv_iload_n hx hb dX4_mourned_56 rfl (lv_at hl 2 rfl) ?_
        obtain ⟨r57, q57, h⟩ := bnd1_inv h
        refine kSI (n := 1) (As := [.int x3]) (rest := [.ref (a 1), .int x2]) CF hl hK hP hD hS hA (c_X4_ofT l D cI   x3 r57 q57) gX4_mourned_X4_ofT rfl dX4_mourned_57 (by decide +kernel) ⟨⟨rfl, rfl⟩, ⟨Nat.le_of_ble_eq_true rfl, Nat.le_of_ble_eq_true rfl⟩, Nat.zero_le _, Nat.zero_le _⟩ (JN.ro [] rfl rfl) rfl rfl (Nat.le_of_ble_eq_true rfl) (fun H locs hP hD hS => ?_)
        refine lv_iconst (v := 4) hx hb dX4_mourned_60 (by decide) ?_
        refine lv_iadd hx hb dX4_mourned_61 ?_
        obtain ⟨g62, h⟩ := chk_inv h
        refine va_iald (n := 61) (f := ss) hx hb hK hP 1 0 rfl rfl g62 dX4_mourned_62 ?_
        refine lv_bipush (v := (-8)) hx hb dX4_mourned_63 (by decide) ?_
        refine lv_icmp_ne (tgt := 74) hx hb dX4_mourned_65 (by decide) (fun c65 => ?_) (fun c65 => ?_)
        · replace h := fx_ite_f c65 h
          refine lv_iconst (v := 0) hx hb dX4_mourned_74 (by decide) ?_
          refine lv_ior hx hb dX4_mourned_75 ?_
          refine lv_istore_n (lv' := [(2, .int (x2 ||| (0 : Int32))), (0, .ref (a 0)), (3, .int x3)]) hx hb dX4_mourned_76 rfl hl (by decide) rfl (fun ls hl => ?_)
          refine lv_iinc (v := (x3 + 1)) (lv' := [(3, .int (x3 + 1)), (2, .int (x2 ||| (0 : Int32))), (0, .ref (a 0))]) hx hb dX4_mourned_77 hl (k := 2) rfl (by first | rfl | decide) (by decide) rfl (fun ls hl => ?_)
          refine lv_goto (tgt := 41) hx hb dX4_mourned_80 (by decide) ?_
          exact ih _ _ _ _ h  _ _ _ hP hD hS (lv_sub hl [2, 1, 0] rfl)
        · replace h := fx_ite_t c65 h
          refine lv_iconst (v := 1) hx hb dX4_mourned_68 (by decide) ?_
          refine lv_iload_n hx hb dX4_mourned_69 rfl (lv_at hl 2 rfl) ?_
          refine lv_ishl hx hb dX4_mourned_70 ?_
          refine lv_goto (tgt := 75) hx hb dX4_mourned_71 (by decide) ?_
          refine lv_ior hx hb dX4_mourned_75 ?_
          refine lv_istore_n (lv' := [(2, .int (x2 ||| ((1 : Int32) <<< (x3 &&& 31)))), (0, .ref (a 0)), (3, .int x3)]) hx hb dX4_mourned_76 rfl hl (by decide) rfl (fun ls hl => ?_)
          refine lv_iinc (v := (x3 + 1)) (lv' := [(3, .int (x3 + 1)), (2, .int (x2 ||| ((1 : Int32) <<< (x3 &&& 31)))), (0, .ref (a 0))]) hx hb dX4_mourned_77 hl (k := 2) rfl (by first | rfl | decide) (by decide) rfl (fun ls hl => ?_)
          refine lv_goto (tgt := 41) hx hb dX4_mourned_80 (by decide) ?_
          exact ih _ _ _ _ h  _ _ _ hP hD hS (lv_sub hl [2, 1, 0] rfl)
  unfold M_X4_mourned at h
  refine lv_iload_n hx hb dX4_mourned_0 rfl (lv_at hl 1 rfl) ?_
  refine lv_iconst (v := 0) hx hb dX4_mourned_1 (by decide) ?_
  refine lv_iconst (v := 1) hx hb dX4_mourned_2 (by decide) ?_
  obtain ⟨r3, q3, h⟩ := bnd1_inv h
  refine kSI (n := 3) (As := [.int p1, .int (0 : Int32), .int (1 : Int32)]) (rest := []) CF hl hK hP hD hS hA (c_X4_isIn l D cI   p1 (0 : Int32) (1 : Int32) r3 q3) gX4_mourned_X4_isIn rfl dX4_mourned_3 (by decide +kernel) ⟨⟨rfl, rfl⟩, ⟨Nat.le_of_ble_eq_true rfl, Nat.le_of_ble_eq_true rfl⟩, Nat.zero_le _, Nat.zero_le _⟩ (JN.ro [] rfl rfl) rfl rfl (Nat.le_of_ble_eq_true rfl) (fun H locs hP hD hS => ?_)
  refine lv_if_ne (tgt := 16) hx hb dX4_mourned_6 (by decide) (fun c6 => ?_) (fun c6 => ?_)
  · replace h := fx_ite_f c6 h
    refine lv_iload_n hx hb dX4_mourned_16 rfl (lv_at hl 1 rfl) ?_
    refine lv_iconst (v := 1) hx hb dX4_mourned_17 (by decide) ?_
    refine lv_icmp_ne (tgt := 37) hx hb dX4_mourned_18 (by decide) (fun c18 => ?_) (fun c18 => ?_)
    · replace h := fx_ite_f c18 h
      refine lv_iconst (v := 0) hx hb dX4_mourned_37 (by decide) ?_
      refine lv_istore_n (lv' := [(2, .int (0 : Int32)), (0, .ref (a 0)), (1, .int p1)]) hx hb dX4_mourned_38 rfl hl (by decide) rfl (fun ls hl => ?_)
      refine lv_iconst (v := 0) hx hb dX4_mourned_39 (by decide) ?_
      refine lv_istore_n (lv' := [(3, .int (0 : Int32)), (2, .int (0 : Int32)), (0, .ref (a 0)), (1, .int p1)]) hx hb dX4_mourned_40 rfl hl (by decide) rfl (fun ls hl => ?_)
      exact L41 FU _ _ _ _ h  _ _ _ hP hD hS (lv_sub hl [2, 1, 0] rfl)
    · replace h := fx_ite_t c18 h
      refine lv_aload_n hx hb dX4_mourned_21 rfl (lv_at hl 0 rfl) ?_
      refine lv_iconst (v := 1) hx hb dX4_mourned_22 (by decide) ?_
      refine lv_aload_n hx hb dX4_mourned_23 rfl (lv_at hl 0 rfl) ?_
      refine va_get (D := D) (ci := 4) (v := .ref (a 1)) (C := RX4) (T := TX4) (N := 16) hx hb hts i4 hown hK hP 0 rfl rfl 0 (by decide) f9 (fun _ h9 => h9) rfl dX4_mourned_24 ?_
      refine lv_iconst (v := 1) hx hb dX4_mourned_27 (by decide) ?_
      refine ald (n := 61) (f := ss) (k := 1) hx hb hK hP 1 0 rfl rfl (fx_lit rfl) rfl dX4_mourned_28 ?_
      refine lv_ishl hx hb dX4_mourned_29 ?_
      refine lv_iconst (v := 1) hx hb dX4_mourned_30 (by decide) ?_
      refine lv_isub hx hb dX4_mourned_31 ?_
      refine lv_iconst (v := 1) hx hb dX4_mourned_32 (by decide) ?_
      obtain ⟨r33, u33_mm, q33, h⟩ := bnd2_inv h
      refine kVI (n := 2) (As := [.int (((1 : Int32) <<< ((ss 1) &&& 31)) - (1 : Int32)), .int (1 : Int32)]) (rest := []) CF hl hK hP hD hS hA (c_X4_whenOf l D cI a ss mm im wa hi le ro re lm rm pl nu gi bg bm sd (((1 : Int32) <<< ((ss 1) &&& 31)) - (1 : Int32)) (1 : Int32) r33 u33_mm q33) gX4_mourned_X4_whenOf rfl dX4_mourned_33 (by decide +kernel) ⟨⟨rfl, rfl⟩, ⟨Nat.le_of_ble_eq_true rfl, Nat.le_of_ble_eq_true rfl⟩, Nat.zero_le _, Nat.zero_le _⟩ (JN.whole (w1 := (cM a cI ss u33_mm im wa hi le ro re lm rm pl nu gi bg bm sd)) rfl) 0 rfl ⟨rfl, rfl⟩ rfl rfl (Nat.le_of_ble_eq_true rfl) (fun H locs hP hD hS => ?_)
      replace hP : va_P D vwCl (cM a cI ss u33_mm im wa hi le ro re lm rm pl nu gi bg bm sd) H := hP
      replace hD : va_D A (cM a cI ss u33_mm im wa hi le ro re lm rm pl nu gi bg bm sd) := hD
      obtain ⟨rfl, rfl, rfl⟩ := rtv3 h
      exact rI hQ hx hb hr hlocks hAe hP hS rfl rfl dX4_mourned_36
  · replace h := fx_ite_t c6 h
    refine lv_aload_n hx hb dX4_mourned_9 rfl (lv_at hl 0 rfl) ?_
    refine lv_bipush (v := (-2)) hx hb dX4_mourned_10 (by decide) ?_
    obtain ⟨r12, u12_re, q12, h⟩ := bnd2_inv h
    refine kVI (n := 1) (As := [.int (-2 : Int32)]) (rest := []) CF hl hK hP hD hS hA (c_X4_no l D cI a ss mm im wa hi le ro re lm rm pl nu gi bg bm sd (-2 : Int32) r12 u12_re q12) gX4_mourned_X4_no rfl dX4_mourned_12 (by decide +kernel) ⟨⟨rfl, rfl⟩, ⟨Nat.le_of_ble_eq_true rfl, Nat.le_of_ble_eq_true rfl⟩, Nat.zero_le _, Nat.zero_le _⟩ (JN.whole (w1 := (cM a cI ss mm im wa hi le ro u12_re lm rm pl nu gi bg bm sd)) rfl) 0 rfl ⟨rfl, rfl⟩ rfl rfl (Nat.le_of_ble_eq_true rfl) (fun H locs hP hD hS => ?_)
    replace hP : va_P D vwCl (cM a cI ss mm im wa hi le ro u12_re lm rm pl nu gi bg bm sd) H := hP
    replace hD : va_D A (cM a cI ss mm im wa hi le ro u12_re lm rm pl nu gi bg bm sd) := hD
    obtain ⟨rfl, rfl, rfl⟩ := rtv3 h
    exact rI hQ hx hb hr hlocks hAe hP hS rfl rfl dX4_mourned_15
/-! X4_first -/
set_option maxHeartbeats 4000000 in
set_option maxRecDepth 100000 in
theorem c_X4_first (l : Launch) (D : va_G) (cI : ClassId) (a : Nat → Nat) (ss : (Nat → Int32)) (mm : (Nat → Int32)) (im : (Nat → Int32)) (wa : (Nat → Int32)) (hi : Int32) (le : (Nat → Int32)) (ro : (Nat → Int32)) (re : (Nat → Int32)) (lm : Int32) (rm : Int32) (pl : Int32) (nu : (Nat → Int32)) (gi : (Nat → Int32)) (bg : (Nat → Int32)) (bm : Int32) (sd : Int32) (p1 : Int32) (res : Int32) (u_mm : (Nat → Int32)) (u_re : (Nat → Int32)) (h : M_X4_first ss mm re p1 = some (res, u_mm, u_re)) : mI l yX4_first wsX4_first { frames := 8, cells := 0, slots := 0, locals := 179 } D cI [.ref (a 0), .int p1] (cM a cI ss mm im wa hi le ro re lm rm pl nu gi bg bm sd) (cM a cI ss u_mm im wa hi le ro u_re lm rm pl nu gi bg bm sd) res := by
  intro sz
  refine mStart (cc := cX4_first) (maxL := 6) (ret := (some .int)) (own := RX4) (by decide) rfl rfl (Nat.le_of_ble_eq_true rfl) (lv := [(0, .ref (a 0)), (1, .int p1)]) rfl ?_
  intro p e s m args below meth c A ls Q H locs CF hr hlocks hK hP hD hS hA hAe hl hQ
  obtain ⟨hx, hb, hml, hown, hts⟩ := id CF
  have f9 := hts (.fieldLink RX4 9 "MendAnothersBreakingModel" "s" "[I") (List.mem_of_getElem? (i := 2) rfl)
  have k40 := hts (.constant RX4 40 (1000000000)) (List.mem_of_getElem? (i := 1) rfl)
  have i4 : ∀ w ∈ wsX40, w ∈ wsX4_first := fun w h => List.mem_cons_of_mem _ (List.mem_append_right _ h)
  have L25 : ∀ (n : Nat) (x1 : Int32) (re : (Nat → Int32)) (x2 : Int32) (x3 : Int32) (x4 : Int32) (mm : (Nat → Int32)), fuel (fun _ _ _ _ => none) (B_X4_first_25 x1 ss re) n x2 x3 x4 mm = some (res, u_mm, u_re) → 
      ∀ (H : Heap) (locs : List Loc) (ls : Array Slot), va_P D vwCl (cM a cI ss mm im wa hi le ro re lm rm pl nu gi bg bm sd) H → va_D A (cM a cI ss mm im wa hi le ro re lm rm pl nu gi bg bm sd) → va_S A s.heap H locs → lv_has ls 6 [(0, .ref (a 0)), (1, .int x1), (2, .int x2), (3, .int x3), (4, .int x4)] → W p l e { frames := 8, cells := 0, slots := 0, locals := 179 } s m args below meth c H locs 0 0 Q (F0 m 25 ls []) := by
    intro n
    induction n with
    | zero =>
      intro x1 re x2 x3 x4 mm h
      exact nomatch (show (none : Option (Int32 × (Nat → Int32) × (Nat → Int32))) = some (res, u_mm, u_re) from h)
    | succ n ih =>
      intro x1 re x2 x3 x4 mm h  H locs ls hP hD hS hl
      replace h : B_X4_first_25 x1 ss re (fuel (fun _ _ _ _ => none) (B_X4_first_25 x1 ss re) n) x2 x3 x4 mm = some (res, u_mm, u_re) := h
      unfold B_X4_first_25 at h
      refine lv_iload hx hb dX4_first_25 (lv_at hl 4 rfl) ?_
      refine lv_aload_n hx hb dX4_first_27 rfl (lv_at hl 0 rfl) ?_
      refine va_get (D := D) (ci := 4) (v := .ref (a 1)) (C := RX4) (T := TX4) (N := 16) hx hb hts i4 hown hK hP 0 rfl rfl 0 (by decide) f9 (fun _ h9 => h9) rfl dX4_first_28 ?_
      refine lv_iconst (v := 1) hx hb dX4_first_31 (by decide) ?_
      refine ald (n := 61) (f := ss) (k := 1) hx hb hK hP 1 0 rfl rfl (fx_lit rfl) rfl dX4_first_32 ?_
      refine lv_icmp_ge (tgt := 90) hx hb dX4_first_33 (by decide) (fun c33 => ?_) (fun c33 => ?_)
      · replace h := fx_ite_t c33 h
        refine lv_iload_n hx hb dX4_first_90 rfl (lv_at hl 2 rfl) ?_
        refine lv_if_lt (tgt := 98) hx hb dX4_first_91 (by decide) (fun c91 => ?_) (fun c91 => ?_)
        · replace h := fx_ite_t c91 h
          refine lv_iload_n hx hb dX4_first_98 rfl (lv_at hl 2 rfl) ?_
          refine lv_goto (tgt := 103) hx hb dX4_first_99 (by decide) ?_
          obtain ⟨rfl, rfl, rfl⟩ := rtv3 h
          exact rI hQ hx hb hr hlocks hAe hP hS rfl rfl dX4_first_103
        · replace h := fx_ite_f c91 h
          refine lv_iload_n hx hb dX4_first_94 rfl (lv_at hl 1 rfl) ?_
          refine lv_if_ne (tgt := 102) hx hb dX4_first_95 (by decide) (fun c95 => ?_) (fun c95 => ?_)
          · replace h := fx_ite_f c95 h
            refine lv_iload_n hx hb dX4_first_102 rfl (lv_at hl 3 rfl) ?_
            obtain ⟨rfl, rfl, rfl⟩ := rtv3 h
            exact rI hQ hx hb hr hlocks hAe hP hS rfl rfl dX4_first_103
          · replace h := fx_ite_t c95 h
            refine lv_iload_n hx hb dX4_first_98 rfl (lv_at hl 2 rfl) ?_
            refine lv_goto (tgt := 103) hx hb dX4_first_99 (by decide) ?_
            obtain ⟨rfl, rfl, rfl⟩ := rtv3 h
            exact rI hQ hx hb hr hlocks hAe hP hS rfl rfl dX4_first_103
      · replace h := fx_ite_f c33 h
        refine lv_aload_n hx hb dX4_first_36 rfl (lv_at hl 0 rfl) ?_
        refine va_get (D := D) (ci := 4) (v := .ref (a 1)) (C := RX4) (T := TX4) (N := 16) hx hb hts i4 hown hK hP 0 rfl rfl 0 (by decide) f9 (fun _ h9 => h9) rfl dX4_first_37 ?_
        refine lv_iload hx hb dX4_first_40 (lv_at hl 4 rfl) ?_
        obtain ⟨r42, q42, h⟩ := bnd1_inv h
        refine kSI (n := 2) (As := [.ref (a 1), .int x4]) (rest := []) CF hl hK hP hD hS hA (c_X4_isWhole l D cI (a 1) ss x4 r42 q42) gX4_first_X4_isWhole rfl dX4_first_42 (by decide +kernel) ⟨⟨rfl, rfl⟩, ⟨Nat.le_of_ble_eq_true rfl, Nat.le_of_ble_eq_true rfl⟩, Nat.zero_le _, Nat.zero_le _⟩ (JN.ro [1] rfl rfl) rfl rfl (Nat.le_of_ble_eq_true rfl) (fun H locs hP hD hS => ?_)
        refine lv_if_eq (tgt := 60) hx hb dX4_first_45 (by decide) (fun c45 => ?_) (fun c45 => ?_)
        · replace h := fx_ite_t c45 h
          refine lv_bipush (v := (-9)) hx hb dX4_first_60 (by decide) ?_
          refine lv_istore (lv' := [(5, .int (-9 : Int32)), (0, .ref (a 0)), (1, .int x1), (2, .int x2), (3, .int x3), (4, .int x4)]) hx hb dX4_first_62 hl (by decide) rfl (fun ls hl => ?_)
          refine lv_iload hx hb dX4_first_64 (lv_at hl 0 rfl) ?_
          refine lv_if_lt (tgt := 84) hx hb dX4_first_66 (by decide) (fun _ => ?_) (fun c9 => absurd c9 (by decide))
          refine lv_iinc (v := (x4 + 1)) (lv' := [(4, .int (x4 + 1)), (5, .int (-9 : Int32)), (0, .ref (a 0)), (1, .int x1), (2, .int x2), (3, .int x3)]) hx hb dX4_first_84 hl (k := 5) rfl (by first | rfl | decide) (by decide) rfl (fun ls hl => ?_)
          refine lv_goto (tgt := 25) hx hb dX4_first_87 (by decide) ?_
          exact ih _ _ _ _ _ _ h  _ _ _ hP hD hS (lv_sub hl [2, 3, 4, 5, 0] rfl)
        · replace h := fx_ite_f c45 h
          refine lv_aload_n hx hb dX4_first_48 rfl (lv_at hl 0 rfl) ?_
          refine lv_iconst (v := 1) hx hb dX4_first_49 (by decide) ?_
          refine lv_iload hx hb dX4_first_50 (lv_at hl 4 rfl) ?_
          refine lv_ishl hx hb dX4_first_52 ?_
          refine lv_iconst (v := 0) hx hb dX4_first_53 (by decide) ?_
          obtain ⟨r54, u54_mm, q54, h⟩ := bnd2_inv h
          refine kVI (n := 2) (As := [.int ((1 : Int32) <<< (x4 &&& 31)), .int (0 : Int32)]) (rest := []) CF hl hK hP hD hS hA (c_X4_whenOf l D cI a ss mm im wa hi le ro re lm rm pl nu gi bg bm sd ((1 : Int32) <<< (x4 &&& 31)) (0 : Int32) r54 u54_mm q54) gX4_first_X4_whenOf rfl dX4_first_54 (by decide +kernel) ⟨⟨rfl, rfl⟩, ⟨Nat.le_of_ble_eq_true rfl, Nat.le_of_ble_eq_true rfl⟩, Nat.zero_le _, Nat.zero_le _⟩ (JN.whole (w1 := (cM a cI ss u54_mm im wa hi le ro re lm rm pl nu gi bg bm sd)) rfl) 0 rfl ⟨rfl, rfl⟩ rfl rfl (Nat.le_of_ble_eq_true rfl) (fun H locs hP hD hS => ?_)
          replace hP : va_P D vwCl (cM a cI ss u54_mm im wa hi le ro re lm rm pl nu gi bg bm sd) H := hP
          replace hD : va_D A (cM a cI ss u54_mm im wa hi le ro re lm rm pl nu gi bg bm sd) := hD
          refine lv_goto (tgt := 62) hx hb dX4_first_57 (by decide) ?_
          refine lv_istore (lv' := [(5, .int r54), (0, .ref (a 0)), (1, .int x1), (2, .int x2), (3, .int x3), (4, .int x4)]) hx hb dX4_first_62 hl (by decide) rfl (fun ls hl => ?_)
          refine lv_iload hx hb dX4_first_64 (lv_at hl 0 rfl) ?_
          refine lv_if_lt (tgt := 84) hx hb dX4_first_66 (by decide) (fun c66 => ?_) (fun c66 => ?_)
          · replace h := fx_ite_t c66 h
            refine lv_iinc (v := (x4 + 1)) (lv' := [(4, .int (x4 + 1)), (5, .int r54), (0, .ref (a 0)), (1, .int x1), (2, .int x2), (3, .int x3)]) hx hb dX4_first_84 hl (k := 5) rfl (by first | rfl | decide) (by decide) rfl (fun ls hl => ?_)
            refine lv_goto (tgt := 25) hx hb dX4_first_87 (by decide) ?_
            exact ih _ _ _ _ _ _ h  _ _ _ hP hD hS (lv_sub hl [2, 3, 4, 5, 0] rfl)
          · replace h := fx_ite_f c66 h
            refine lv_iload hx hb dX4_first_69 (lv_at hl 0 rfl) ?_
            refine lv_iload_n hx hb dX4_first_71 rfl (lv_at hl 4 rfl) ?_
            refine lv_icmp_lt (tgt := 78) hx hb dX4_first_72 (by decide) (fun c72 => ?_) (fun c72 => ?_)
            · replace h := fx_ite_t c72 h
              refine lv_iload hx hb dX4_first_78 (lv_at hl 5 rfl) ?_
              refine lv_istore_n (lv' := [(2, .int x4), (5, .int r54), (0, .ref (a 0)), (1, .int x1), (3, .int x3), (4, .int x4)]) hx hb dX4_first_80 rfl hl (by decide) rfl (fun ls hl => ?_)
              refine lv_iload hx hb dX4_first_81 (lv_at hl 1 rfl) ?_
              refine lv_istore_n (lv' := [(3, .int r54), (2, .int x4), (5, .int r54), (0, .ref (a 0)), (1, .int x1), (4, .int x4)]) hx hb dX4_first_83 rfl hl (by decide) rfl (fun ls hl => ?_)
              refine lv_iinc (v := (x4 + 1)) (lv' := [(4, .int (x4 + 1)), (3, .int r54), (2, .int x4), (5, .int r54), (0, .ref (a 0)), (1, .int x1)]) hx hb dX4_first_84 hl (k := 5) rfl (by first | rfl | decide) (by decide) rfl (fun ls hl => ?_)
              refine lv_goto (tgt := 25) hx hb dX4_first_87 (by decide) ?_
              exact ih _ _ _ _ _ _ h  _ _ _ hP hD hS (lv_sub hl [4, 5, 2, 1, 0] rfl)
            · replace h := fx_ite_f c72 h
              refine lv_goto (tgt := 84) hx hb dX4_first_75 (by decide) ?_
              refine lv_iinc (v := (x4 + 1)) (lv' := [(4, .int (x4 + 1)), (5, .int r54), (0, .ref (a 0)), (1, .int x1), (2, .int x2), (3, .int x3)]) hx hb dX4_first_84 hl (k := 5) rfl (by first | rfl | decide) (by decide) rfl (fun ls hl => ?_)
              refine lv_goto (tgt := 25) hx hb dX4_first_87 (by decide) ?_
              exact ih _ _ _ _ _ _ h  _ _ _ hP hD hS (lv_sub hl [2, 3, 4, 5, 0] rfl)
  unfold M_X4_first at h
  refine lv_iload_n hx hb dX4_first_0 rfl (lv_at hl 1 rfl) ?_
  refine lv_iconst (v := 0) hx hb dX4_first_1 (by decide) ?_
  refine lv_iconst (v := 1) hx hb dX4_first_2 (by decide) ?_
  obtain ⟨r3, q3, h⟩ := bnd1_inv h
  refine kSI (n := 3) (As := [.int p1, .int (0 : Int32), .int (1 : Int32)]) (rest := []) CF hl hK hP hD hS hA (c_X4_isIn l D cI   p1 (0 : Int32) (1 : Int32) r3 q3) gX4_first_X4_isIn rfl dX4_first_3 (by decide +kernel) ⟨⟨rfl, rfl⟩, ⟨Nat.le_of_ble_eq_true rfl, Nat.le_of_ble_eq_true rfl⟩, Nat.zero_le _, Nat.zero_le _⟩ (JN.ro [] rfl rfl) rfl rfl (Nat.le_of_ble_eq_true rfl) (fun H locs hP hD hS => ?_)
  refine lv_if_ne (tgt := 16) hx hb dX4_first_6 (by decide) (fun c6 => ?_) (fun c6 => ?_)
  · replace h := fx_ite_f c6 h
    refine lv_bipush (v := (-9)) hx hb dX4_first_16 (by decide) ?_
    refine lv_istore_n (lv' := [(2, .int (-9 : Int32)), (0, .ref (a 0)), (1, .int p1)]) hx hb dX4_first_18 rfl hl (by decide) rfl (fun ls hl => ?_)
    refine lv_ldc (v := 1000000000) hx hb hown k40 dX4_first_19 ?_
    refine lv_istore_n (lv' := [(3, .int (1000000000 : Int32)), (2, .int (-9 : Int32)), (0, .ref (a 0)), (1, .int p1)]) hx hb dX4_first_21 rfl hl (by decide) rfl (fun ls hl => ?_)
    refine lv_iconst (v := 0) hx hb dX4_first_22 (by decide) ?_
    refine lv_istore (lv' := [(4, .int (0 : Int32)), (3, .int (1000000000 : Int32)), (2, .int (-9 : Int32)), (0, .ref (a 0)), (1, .int p1)]) hx hb dX4_first_23 hl (by decide) rfl (fun ls hl => ?_)
    exact L25 FU _ _ _ _ _ _ h  _ _ _ hP hD hS (lv_sub hl [3, 4, 2, 1, 0] rfl)
  · replace h := fx_ite_t c6 h
    refine lv_aload_n hx hb dX4_first_9 rfl (lv_at hl 0 rfl) ?_
    refine lv_bipush (v := (-2)) hx hb dX4_first_10 (by decide) ?_
    obtain ⟨r12, u12_re, q12, h⟩ := bnd2_inv h
    refine kVI (n := 1) (As := [.int (-2 : Int32)]) (rest := []) CF hl hK hP hD hS hA (c_X4_no l D cI a ss mm im wa hi le ro re lm rm pl nu gi bg bm sd (-2 : Int32) r12 u12_re q12) gX4_first_X4_no rfl dX4_first_12 (by decide +kernel) ⟨⟨rfl, rfl⟩, ⟨Nat.le_of_ble_eq_true rfl, Nat.le_of_ble_eq_true rfl⟩, Nat.zero_le _, Nat.zero_le _⟩ (JN.whole (w1 := (cM a cI ss mm im wa hi le ro u12_re lm rm pl nu gi bg bm sd)) rfl) 0 rfl ⟨rfl, rfl⟩ rfl rfl (Nat.le_of_ble_eq_true rfl) (fun H locs hP hD hS => ?_)
    replace hP : va_P D vwCl (cM a cI ss mm im wa hi le ro u12_re lm rm pl nu gi bg bm sd) H := hP
    replace hD : va_D A (cM a cI ss mm im wa hi le ro u12_re lm rm pl nu gi bg bm sd) := hD
    obtain ⟨rfl, rfl, rfl⟩ := rtv3 h
    exact rI hQ hx hb hr hlocks hAe hP hS rfl rfl dX4_first_15
/-! X4_menders -/
set_option maxHeartbeats 4000000 in
set_option maxRecDepth 100000 in
theorem c_X4_menders (l : Launch) (D : va_G) (cI : ClassId) (a : Nat → Nat) (ss : (Nat → Int32)) (mm : (Nat → Int32)) (im : (Nat → Int32)) (wa : (Nat → Int32)) (hi : Int32) (le : (Nat → Int32)) (ro : (Nat → Int32)) (re : (Nat → Int32)) (lm : Int32) (rm : Int32) (pl : Int32) (nu : (Nat → Int32)) (gi : (Nat → Int32)) (bg : (Nat → Int32)) (bm : Int32) (sd : Int32) (p1 : Int32) (res : Int32) (u_re : (Nat → Int32)) (h : M_X4_menders ss re p1 = some (res, u_re)) : mI l yX4_menders wsX4_menders { frames := 4, cells := 0, slots := 0, locals := 88 } D cI [.ref (a 0), .int p1] (cM a cI ss mm im wa hi le ro re lm rm pl nu gi bg bm sd) (cM a cI ss mm im wa hi le ro u_re lm rm pl nu gi bg bm sd) res := by
  intro sz
  refine mStart (cc := cX4_menders) (maxL := 2) (ret := (some .int)) (own := RX4) (by decide) rfl rfl (Nat.le_of_ble_eq_true rfl) (lv := [(0, .ref (a 0)), (1, .int p1)]) rfl ?_
  intro p e s m args below meth c A ls Q H locs CF hr hlocks hK hP hD hS hA hAe hl hQ
  obtain ⟨hx, hb, hml, hown, hts⟩ := id CF
  unfold M_X4_menders at h
  refine lv_aload_n hx hb dX4_menders_0 rfl (lv_at hl 0 rfl) ?_
  refine lv_iload_n hx hb dX4_menders_1 rfl (lv_at hl 1 rfl) ?_
  obtain ⟨r2, q2, h⟩ := bnd1_inv h
  refine kVI (n := 1) (As := [.int p1]) (rest := []) CF hl hK hP hD hS hA (c_X4_isThing l D cI a ss mm im wa hi le ro re lm rm pl nu gi bg bm sd p1 r2 q2) gX4_menders_X4_isThing rfl dX4_menders_2 (by decide +kernel) ⟨⟨rfl, rfl⟩, ⟨Nat.le_of_ble_eq_true rfl, Nat.le_of_ble_eq_true rfl⟩, Nat.zero_le _, Nat.zero_le _⟩ (JN.whole rfl) 0 rfl ⟨rfl, rfl⟩ rfl rfl (Nat.le_of_ble_eq_true rfl) (fun H locs hP hD hS => ?_)
  replace hP : va_P D vwCl (cM a cI ss mm im wa hi le ro re lm rm pl nu gi bg bm sd) H := hP
  replace hD : va_D A (cM a cI ss mm im wa hi le ro re lm rm pl nu gi bg bm sd) := hD
  refine lv_if_eq (tgt := 16) hx hb dX4_menders_5 (by decide) (fun c5 => ?_) (fun c5 => ?_)
  · replace h := fx_ite_t c5 h
    refine lv_aload_n hx hb dX4_menders_16 rfl (lv_at hl 0 rfl) ?_
    refine lv_iconst (v := (-1)) hx hb dX4_menders_17 (by decide) ?_
    obtain ⟨r18, u18_re, q18, h⟩ := bnd2_inv h
    refine kVI (n := 1) (As := [.int (-1 : Int32)]) (rest := []) CF hl hK hP hD hS hA (c_X4_no l D cI a ss mm im wa hi le ro re lm rm pl nu gi bg bm sd (-1 : Int32) r18 u18_re q18) gX4_menders_X4_no rfl dX4_menders_18 (by decide +kernel) ⟨⟨rfl, rfl⟩, ⟨Nat.le_of_ble_eq_true rfl, Nat.le_of_ble_eq_true rfl⟩, Nat.zero_le _, Nat.zero_le _⟩ (JN.whole (w1 := (cM a cI ss mm im wa hi le ro u18_re lm rm pl nu gi bg bm sd)) rfl) 0 rfl ⟨rfl, rfl⟩ rfl rfl (Nat.le_of_ble_eq_true rfl) (fun H locs hP hD hS => ?_)
    replace hP : va_P D vwCl (cM a cI ss mm im wa hi le ro u18_re lm rm pl nu gi bg bm sd) H := hP
    replace hD : va_D A (cM a cI ss mm im wa hi le ro u18_re lm rm pl nu gi bg bm sd) := hD
    obtain ⟨rfl, rfl⟩ := rtv2 h
    exact rI hQ hx hb hr hlocks hAe hP hS rfl rfl dX4_menders_21
  · replace h := fx_ite_f c5 h
    refine lv_aload_n hx hb dX4_menders_8 rfl (lv_at hl 0 rfl) ?_
    refine lv_iload_n hx hb dX4_menders_9 rfl (lv_at hl 1 rfl) ?_
    obtain ⟨r10, q10, h⟩ := bnd1_inv h
    refine kVI (n := 1) (As := [.int p1]) (rest := []) CF hl hK hP hD hS hA (c_X4_mendersOf l D cI a ss mm im wa hi le ro re lm rm pl nu gi bg bm sd p1 r10 q10) gX4_menders_X4_mendersOf rfl dX4_menders_10 (by decide +kernel) ⟨⟨rfl, rfl⟩, ⟨Nat.le_of_ble_eq_true rfl, Nat.le_of_ble_eq_true rfl⟩, Nat.zero_le _, Nat.zero_le _⟩ (JN.whole rfl) 0 rfl ⟨rfl, rfl⟩ rfl rfl (Nat.le_of_ble_eq_true rfl) (fun H locs hP hD hS => ?_)
    replace hP : va_P D vwCl (cM a cI ss mm im wa hi le ro re lm rm pl nu gi bg bm sd) H := hP
    replace hD : va_D A (cM a cI ss mm im wa hi le ro re lm rm pl nu gi bg bm sd) := hD
    refine lv_goto (tgt := 21) hx hb dX4_menders_13 (by decide) ?_
    obtain ⟨rfl, rfl⟩ := rtv2 h
    exact rI hQ hx hb hr hlocks hAe hP hS rfl rfl dX4_menders_21
/-! X4_gives -/
set_option maxHeartbeats 4000000 in
set_option maxRecDepth 100000 in
theorem c_X4_gives_d (l : Launch) (D : va_G) (cI : ClassId) : ∀ (d : Nat) (a : Nat → Nat) (ss : (Nat → Int32)) (mm : (Nat → Int32)) (im : (Nat → Int32)) (wa : (Nat → Int32)) (hi : Int32) (le : (Nat → Int32)) (ro : (Nat → Int32)) (re : (Nat → Int32)) (lm : Int32) (rm : Int32) (pl : Int32) (nu : (Nat → Int32)) (gi : (Nat → Int32)) (bg : (Nat → Int32)) (bm : Int32) (sd : Int32) (p1 : Int32) (p2 : Int32) (p3 : Int32) (u_gi : (Nat → Int32)) (u_bg : (Nat → Int32)) (u_bm : Int32), M_X4_gives d ss gi bg bm p1 p2 p3 = some (u_gi, u_bg, u_bm) → mV l yX4_gives wsX4_gives { frames := d + 4, cells := 0, slots := 0, locals := d * 24 + 87 } D cI [.ref (a 0), .int p1, .int p2, .int p3] (cM a cI ss mm im wa hi le ro re lm rm pl nu gi bg bm sd) (cM a cI ss mm im wa hi le ro re lm rm pl nu u_gi u_bg u_bm sd) := by
  intro d
  induction d with
  | zero =>
    intro a ss mm im wa hi le ro re lm rm pl nu gi bg bm sd p1 p2 p3 u_gi u_bg u_bm h
    exact nomatch (show (none : Option ((Nat → Int32) × (Nat → Int32) × Int32)) = some (u_gi, u_bg, u_bm) from h)
  | succ d ihd =>
    intro a ss mm im wa hi le ro re lm rm pl nu gi bg bm sd p1 p2 p3 u_gi u_bg u_bm h
    replace h : N_X4_gives (M_X4_gives d) ss gi bg bm p1 p2 p3 = some (u_gi, u_bg, u_bm) := h
    generalize hself : M_X4_gives d = self at h ihd
    intro sz
    refine mStart (cc := cX4_gives) (maxL := 5) (ret := none) (own := RX4) (by decide) rfl rfl (Nat.le_of_ble_eq_true rfl) (lv := [(0, .ref (a 0)), (1, .int p1), (2, .int p2), (3, .int p3)]) rfl ?_
    intro p e s m args below meth c A ls Q H locs CF hr hlocks hK hP hD hS hA hAe hl hQ
    obtain ⟨hx, hb, hml, hown, hts⟩ := id CF
    have f9 := hts (.fieldLink RX4 9 "MendAnothersBreakingModel" "s" "[I") (List.mem_of_getElem? (i := 1) rfl)
    have f34 := hts (.fieldLink RX4 34 "MendAnothersBreakingModel" "given" "[I") (List.mem_of_getElem? (i := 4) rfl)
    have f37 := hts (.fieldLink RX4 37 "MendAnothersBreakingModel" "bestGiven" "[I") (List.mem_of_getElem? (i := 3) rfl)
    have f170 := hts (.fieldLink RX4 170 "MendAnothersBreakingModel" "bestMany" "I") (List.mem_of_getElem? (i := 2) rfl)
    have i4 : ∀ w ∈ wsX40, w ∈ wsX4_gives := fun w h => List.mem_cons_of_mem _ (List.mem_append_right _ h)
    have L58 : ∀ (n : Nat) (x1 : Int32) (x2 : Int32) (x3 : Int32) (x4 : Int32) (gi : (Nat → Int32)) (bg : (Nat → Int32)) (bm : Int32), fuel (fun _ _ _ _ => none) (B_X4_gives_58 self x1 x2 x3 ss) n x4 gi bg bm = some (u_gi, u_bg, u_bm) → 
        ∀ (H : Heap) (locs : List Loc) (ls : Array Slot), va_P D vwCl (cM a cI ss mm im wa hi le ro re lm rm pl nu gi bg bm sd) H → va_D A (cM a cI ss mm im wa hi le ro re lm rm pl nu gi bg bm sd) → va_S A s.heap H locs → lv_has ls 5 [(0, .ref (a 0)), (1, .int x1), (2, .int x2), (3, .int x3), (4, .int x4)] → W p l e { frames := d + 1 + 4, cells := 0, slots := 0, locals := (d + 1) * 24 + 87 } s m args below meth c H locs 0 0 Q (F0 m 58 ls []) := by
      intro n
      induction n with
      | zero =>
        intro x1 x2 x3 x4 gi bg bm h
        exact nomatch (show (none : Option ((Nat → Int32) × (Nat → Int32) × Int32)) = some (u_gi, u_bg, u_bm) from h)
      | succ n ih =>
        intro x1 x2 x3 x4 gi bg bm h  H locs ls hP hD hS hl
        replace h : B_X4_gives_58 self x1 x2 x3 ss (fuel (fun _ _ _ _ => none) (B_X4_gives_58 self x1 x2 x3 ss) n) x4 gi bg bm = some (u_gi, u_bg, u_bm) := h
        unfold B_X4_gives_58 at h
        refine lv_iload hx hb dX4_gives_58 (lv_at hl 4 rfl) ?_
        refine lv_aload_n hx hb dX4_gives_60 rfl (lv_at hl 0 rfl) ?_
        refine va_get (D := D) (ci := 4) (v := .ref (a 1)) (C := RX4) (T := TX4) (N := 16) hx hb hts i4 hown hK hP 0 rfl rfl 0 (by decide) f9 (fun _ h9 => h9) rfl dX4_gives_61 ?_
        refine lv_iconst (v := 0) hx hb dX4_gives_64 (by decide) ?_
        refine ald (n := 61) (f := ss) (k := 0) hx hb hK hP 1 0 rfl rfl (fx_lit rfl) rfl dX4_gives_65 ?_
        refine lv_icmp_ge (tgt := 124) hx hb dX4_gives_66 (by decide) (fun c66 => ?_) (fun c66 => ?_)
        · replace h := fx_ite_t c66 h
          refine lv_aload_n hx hb dX4_gives_124 rfl (lv_at hl 0 rfl) ?_
          refine va_get (D := D) (ci := 4) (v := .ref (a 9)) (C := RX4) (T := TX4) (N := 16) hx hb hts i4 hown hK hP 0 rfl rfl 12 (by decide) f34 (fun _ h9 => h9) rfl dX4_gives_125 ?_
          refine lv_iload_n hx hb dX4_gives_128 rfl (lv_at hl 1 rfl) ?_
          refine lv_bipush (v := (-9)) hx hb dX4_gives_129 (by decide) ?_
          obtain ⟨g131, h⟩ := chk_inv h
          refine va_iast (n := 9) (f := gi) hx hb hK hP hD hS 9 0 rfl rfl g131 dX4_gives_131 (fun H locs hP hD hS => ?_)
          replace hP : va_P D vwCl (cM a cI ss mm im wa hi le ro re lm rm pl nu (upd gi (Int32.toNatClampNeg x1) (-9 : Int32)) bg bm sd) H := hP
          replace hD : va_D A (cM a cI ss mm im wa hi le ro re lm rm pl nu (upd gi (Int32.toNatClampNeg x1) (-9 : Int32)) bg bm sd) := hD
          refine lv_aload_n hx hb dX4_gives_132 rfl (lv_at hl 0 rfl) ?_
          refine lv_iload_n hx hb dX4_gives_133 rfl (lv_at hl 1 rfl) ?_
          refine lv_iconst (v := 1) hx hb dX4_gives_134 (by decide) ?_
          refine lv_iadd hx hb dX4_gives_135 ?_
          refine lv_iload_n hx hb dX4_gives_136 rfl (lv_at hl 2 rfl) ?_
          refine lv_iload_n hx hb dX4_gives_137 rfl (lv_at hl 3 rfl) ?_
          obtain ⟨u138_gi, u138_bg, u138_bm, q138, h⟩ := bnd3_inv h
          refine kVV (n := 3) (As := [.int (x1 + (1 : Int32)), .int x2, .int x3]) (rest := []) CF hl hK hP hD hS hA (ihd a _ _ _ _ _ _ _ _ _ _ _ _ _ _ _ _ _ _ _ u138_gi u138_bg u138_bm q138) gX4_gives_X4_gives rfl dX4_gives_138 (by decide +kernel) ⟨⟨rfl, rfl⟩, ⟨by dsimp only; omega, by dsimp only; omega⟩, Nat.zero_le _, Nat.zero_le _⟩ (JN.whole (w1 := (cM a cI ss mm im wa hi le ro re lm rm pl nu u138_gi u138_bg u138_bm sd)) rfl) 0 rfl ⟨rfl, rfl⟩ rfl rfl (Nat.le_of_ble_eq_true rfl) (fun H locs hP hD hS => ?_)
          replace hP : va_P D vwCl (cM a cI ss mm im wa hi le ro re lm rm pl nu u138_gi u138_bg u138_bm sd) H := hP
          replace hD : va_D A (cM a cI ss mm im wa hi le ro re lm rm pl nu u138_gi u138_bg u138_bm sd) := hD
          obtain ⟨rfl, rfl, rfl⟩ := rtv3 h
          exact rV hQ hx hb hr hlocks hAe hP hS dX4_gives_141
        · replace h := fx_ite_f c66 h
          refine lv_iload_n hx hb dX4_gives_69 rfl (lv_at hl 2 rfl) ?_
          refine lv_iload hx hb dX4_gives_70 (lv_at hl 4 rfl) ?_
          obtain ⟨r72, q72, h⟩ := bnd1_inv h
          refine kSI (n := 2) (As := [.int x2, .int x4]) (rest := []) CF hl hK hP hD hS hA (c_X4_has l D cI   x2 x4 r72 q72) gX4_gives_X4_has rfl dX4_gives_72 (by decide +kernel) ⟨⟨rfl, rfl⟩, ⟨by dsimp only; omega, by dsimp only; omega⟩, Nat.zero_le _, Nat.zero_le _⟩ (JN.ro [] rfl rfl) rfl rfl (Nat.le_of_ble_eq_true rfl) (fun H locs hP hD hS => ?_)
          refine lv_if_ne (tgt := 118) hx hb dX4_gives_75 (by decide) (fun c75 => ?_) (fun c75 => ?_)
          · replace h := fx_ite_f c75 h
            refine lv_iinc (v := (x4 + 1)) (lv' := [(4, .int (x4 + 1)), (0, .ref (a 0)), (1, .int x1), (2, .int x2), (3, .int x3)]) hx hb dX4_gives_118 hl (k := 4) rfl (by first | rfl | decide) (by decide) rfl (fun ls hl => ?_)
            refine lv_goto (tgt := 58) hx hb dX4_gives_121 (by decide) ?_
            exact ih _ _ _ _ _ _ _ h  _ _ _ hP hD hS (lv_sub hl [1, 2, 3, 4, 0] rfl)
          · replace h := fx_ite_t c75 h
            refine lv_aload_n hx hb dX4_gives_78 rfl (lv_at hl 0 rfl) ?_
            refine va_get (D := D) (ci := 4) (v := .ref (a 1)) (C := RX4) (T := TX4) (N := 16) hx hb hts i4 hown hK hP 0 rfl rfl 0 (by decide) f9 (fun _ h9 => h9) rfl dX4_gives_79 ?_
            refine lv_iload hx hb dX4_gives_82 (lv_at hl 4 rfl) ?_
            refine lv_iload_n hx hb dX4_gives_84 rfl (lv_at hl 1 rfl) ?_
            obtain ⟨r85, q85, h⟩ := bnd1_inv h
            refine kSI (n := 3) (As := [.ref (a 1), .int x4, .int x1]) (rest := []) CF hl hK hP hD hS hA (c_X4_mayMend l D cI (a 1) ss x4 x1 r85 q85) gX4_gives_X4_mayMend rfl dX4_gives_85 (by decide +kernel) ⟨⟨rfl, rfl⟩, ⟨by dsimp only; omega, by dsimp only; omega⟩, Nat.zero_le _, Nat.zero_le _⟩ (JN.ro [1] rfl rfl) rfl rfl (Nat.le_of_ble_eq_true rfl) (fun H locs hP hD hS => ?_)
            refine lv_if_ne (tgt := 94) hx hb dX4_gives_88 (by decide) (fun c88 => ?_) (fun c88 => ?_)
            · replace h := fx_ite_f c88 h
              refine lv_aload_n hx hb dX4_gives_94 rfl (lv_at hl 0 rfl) ?_
              refine va_get (D := D) (ci := 4) (v := .ref (a 9)) (C := RX4) (T := TX4) (N := 16) hx hb hts i4 hown hK hP 0 rfl rfl 12 (by decide) f34 (fun _ h9 => h9) rfl dX4_gives_95 ?_
              refine lv_iload_n hx hb dX4_gives_98 rfl (lv_at hl 1 rfl) ?_
              refine lv_iload hx hb dX4_gives_99 (lv_at hl 4 rfl) ?_
              obtain ⟨g101, h⟩ := chk_inv h
              refine va_iast (n := 9) (f := gi) hx hb hK hP hD hS 9 0 rfl rfl g101 dX4_gives_101 (fun H locs hP hD hS => ?_)
              replace hP : va_P D vwCl (cM a cI ss mm im wa hi le ro re lm rm pl nu (upd gi (Int32.toNatClampNeg x1) x4) bg bm sd) H := hP
              replace hD : va_D A (cM a cI ss mm im wa hi le ro re lm rm pl nu (upd gi (Int32.toNatClampNeg x1) x4) bg bm sd) := hD
              refine lv_aload_n hx hb dX4_gives_102 rfl (lv_at hl 0 rfl) ?_
              refine lv_iload_n hx hb dX4_gives_103 rfl (lv_at hl 1 rfl) ?_
              refine lv_iconst (v := 1) hx hb dX4_gives_104 (by decide) ?_
              refine lv_iadd hx hb dX4_gives_105 ?_
              refine lv_iload_n hx hb dX4_gives_106 rfl (lv_at hl 2 rfl) ?_
              refine lv_iconst (v := 1) hx hb dX4_gives_107 (by decide) ?_
              refine lv_iload hx hb dX4_gives_108 (lv_at hl 4 rfl) ?_
              refine lv_ishl hx hb dX4_gives_110 ?_
              refine lv_ior hx hb dX4_gives_111 ?_
              refine lv_iload_n hx hb dX4_gives_112 rfl (lv_at hl 3 rfl) ?_
              refine lv_iconst (v := 1) hx hb dX4_gives_113 (by decide) ?_
              refine lv_iadd hx hb dX4_gives_114 ?_
              obtain ⟨u115_gi, u115_bg, u115_bm, q115, h⟩ := bnd3_inv h
              refine kVV (n := 3) (As := [.int (x1 + (1 : Int32)), .int (x2 ||| ((1 : Int32) <<< (x4 &&& 31))), .int (x3 + (1 : Int32))]) (rest := []) CF hl hK hP hD hS hA (ihd a _ _ _ _ _ _ _ _ _ _ _ _ _ _ _ _ _ _ _ u115_gi u115_bg u115_bm q115) gX4_gives_X4_gives rfl dX4_gives_115 (by decide +kernel) ⟨⟨rfl, rfl⟩, ⟨by dsimp only; omega, by dsimp only; omega⟩, Nat.zero_le _, Nat.zero_le _⟩ (JN.whole (w1 := (cM a cI ss mm im wa hi le ro re lm rm pl nu u115_gi u115_bg u115_bm sd)) rfl) 0 rfl ⟨rfl, rfl⟩ rfl rfl (Nat.le_of_ble_eq_true rfl) (fun H locs hP hD hS => ?_)
              replace hP : va_P D vwCl (cM a cI ss mm im wa hi le ro re lm rm pl nu u115_gi u115_bg u115_bm sd) H := hP
              replace hD : va_D A (cM a cI ss mm im wa hi le ro re lm rm pl nu u115_gi u115_bg u115_bm sd) := hD
              refine lv_iinc (v := (x4 + 1)) (lv' := [(4, .int (x4 + 1)), (0, .ref (a 0)), (1, .int x1), (2, .int x2), (3, .int x3)]) hx hb dX4_gives_118 hl (k := 4) rfl (by first | rfl | decide) (by decide) rfl (fun ls hl => ?_)
              refine lv_goto (tgt := 58) hx hb dX4_gives_121 (by decide) ?_
              exact ih _ _ _ _ _ _ _ h  _ _ _ hP hD hS (lv_sub hl [1, 2, 3, 4, 0] rfl)
            · replace h := fx_ite_t c88 h
              refine lv_goto (tgt := 118) hx hb dX4_gives_91 (by decide) ?_
              refine lv_iinc (v := (x4 + 1)) (lv' := [(4, .int (x4 + 1)), (0, .ref (a 0)), (1, .int x1), (2, .int x2), (3, .int x3)]) hx hb dX4_gives_118 hl (k := 4) rfl (by first | rfl | decide) (by decide) rfl (fun ls hl => ?_)
              refine lv_goto (tgt := 58) hx hb dX4_gives_121 (by decide) ?_
              exact ih _ _ _ _ _ _ _ h  _ _ _ hP hD hS (lv_sub hl [1, 2, 3, 4, 0] rfl)
    have L27 : ∀ (n : Nat) (gi : (Nat → Int32)) (bm : Int32) (x4 : Int32) (bg : (Nat → Int32)), fuel (fun _ _ => none) (B_X4_gives_27 self ss gi bm) n x4 bg = some (u_gi, u_bg, u_bm) → 
        ∀ (H : Heap) (locs : List Loc) (ls : Array Slot), va_P D vwCl (cM a cI ss mm im wa hi le ro re lm rm pl nu gi bg bm sd) H → va_D A (cM a cI ss mm im wa hi le ro re lm rm pl nu gi bg bm sd) → va_S A s.heap H locs → lv_has ls 5 [(0, .ref (a 0)), (4, .int x4)] → W p l e { frames := d + 1 + 4, cells := 0, slots := 0, locals := (d + 1) * 24 + 87 } s m args below meth c H locs 0 0 Q (F0 m 27 ls []) := by
      intro n
      induction n with
      | zero =>
        intro gi bm x4 bg h
        exact nomatch (show (none : Option ((Nat → Int32) × (Nat → Int32) × Int32)) = some (u_gi, u_bg, u_bm) from h)
      | succ n ih =>
        intro gi bm x4 bg h  H locs ls hP hD hS hl
        replace h : B_X4_gives_27 self ss gi bm (fuel (fun _ _ => none) (B_X4_gives_27 self ss gi bm) n) x4 bg = some (u_gi, u_bg, u_bm) := h
        unfold B_X4_gives_27 at h
        refine lv_iload hx hb dX4_gives_27 (lv_at hl 1 rfl) ?_
        refine lv_bipush (v := 9) hx hb dX4_gives_29 (by decide) ?_
        refine lv_icmp_ge (tgt := 54) hx hb dX4_gives_31 (by decide) (fun c31 => ?_) (fun c31 => ?_)
        · replace h := fx_ite_t c31 h
          obtain ⟨rfl, rfl, rfl⟩ := rtv3 h
          exact rV hQ hx hb hr hlocks hAe hP hS dX4_gives_54
        · replace h := fx_ite_f c31 h
          refine lv_aload_n hx hb dX4_gives_34 rfl (lv_at hl 0 rfl) ?_
          refine va_get (D := D) (ci := 4) (v := .ref (a 10)) (C := RX4) (T := TX4) (N := 16) hx hb hts i4 hown hK hP 0 rfl rfl 13 (by decide) f37 (fun _ h9 => h9) rfl dX4_gives_35 ?_
          refine lv_iload hx hb dX4_gives_38 (lv_at hl 1 rfl) ?_
          refine lv_aload_n hx hb dX4_gives_40 rfl (lv_at hl 0 rfl) ?_
          refine va_get (D := D) (ci := 4) (v := .ref (a 9)) (C := RX4) (T := TX4) (N := 16) hx hb hts i4 hown hK hP 0 rfl rfl 12 (by decide) f34 (fun _ h9 => h9) rfl dX4_gives_41 ?_
          refine lv_iload hx hb dX4_gives_44 (lv_at hl 1 rfl) ?_
          obtain ⟨g46, h⟩ := chk_inv h
          refine va_iald (n := 9) (f := gi) hx hb hK hP 9 0 rfl rfl g46 dX4_gives_46 ?_
          obtain ⟨g47, h⟩ := chk_inv h
          refine va_iast (n := 9) (f := bg) hx hb hK hP hD hS 10 0 rfl rfl g47 dX4_gives_47 (fun H locs hP hD hS => ?_)
          replace hP : va_P D vwCl (cM a cI ss mm im wa hi le ro re lm rm pl nu gi (upd bg (Int32.toNatClampNeg x4) (gi (Int32.toNatClampNeg x4))) bm sd) H := hP
          replace hD : va_D A (cM a cI ss mm im wa hi le ro re lm rm pl nu gi (upd bg (Int32.toNatClampNeg x4) (gi (Int32.toNatClampNeg x4))) bm sd) := hD
          refine lv_iinc (v := (x4 + 1)) (lv' := [(4, .int (x4 + 1)), (0, .ref (a 0))]) hx hb dX4_gives_48 hl (k := 1) rfl (by first | rfl | decide) (by decide) rfl (fun ls hl => ?_)
          refine lv_goto (tgt := 27) hx hb dX4_gives_51 (by decide) ?_
          exact ih _ _ _ _ h  _ _ _ hP hD hS (lv_sub hl [1, 0] rfl)
    unfold N_X4_gives at h
    refine lv_iload_n hx hb dX4_gives_0 rfl (lv_at hl 1 rfl) ?_
    refine lv_aload_n hx hb dX4_gives_1 rfl (lv_at hl 0 rfl) ?_
    refine va_get (D := D) (ci := 4) (v := .ref (a 1)) (C := RX4) (T := TX4) (N := 16) hx hb hts i4 hown hK hP 0 rfl rfl 0 (by decide) f9 (fun _ h9 => h9) rfl dX4_gives_2 ?_
    refine lv_iconst (v := 1) hx hb dX4_gives_5 (by decide) ?_
    refine ald (n := 61) (f := ss) (k := 1) hx hb hK hP 1 0 rfl rfl (fx_lit rfl) rfl dX4_gives_6 ?_
    refine lv_icmp_ne (tgt := 55) hx hb dX4_gives_7 (by decide) (fun c7 => ?_) (fun c7 => ?_)
    · replace h := fx_ite_f c7 h
      refine lv_iconst (v := 0) hx hb dX4_gives_55 (by decide) ?_
      refine lv_istore (lv' := [(4, .int (0 : Int32)), (0, .ref (a 0)), (1, .int p1), (2, .int p2), (3, .int p3)]) hx hb dX4_gives_56 hl (by decide) rfl (fun ls hl => ?_)
      exact L58 FU _ _ _ _ _ _ _ h  _ _ _ hP hD hS (lv_sub hl [1, 2, 3, 4, 0] rfl)
    · replace h := fx_ite_t c7 h
      refine lv_iload_n hx hb dX4_gives_10 rfl (lv_at hl 3 rfl) ?_
      refine lv_aload_n hx hb dX4_gives_11 rfl (lv_at hl 0 rfl) ?_
      refine va_get (D := D) (ci := 4) (v := .int bm) (C := RX4) (T := TX4) (N := 16) hx hb hts i4 hown hK hP 0 rfl rfl 14 (by decide) f170 (fun _ h9 => h9) rfl dX4_gives_12 ?_
      refine lv_icmp_gt (tgt := 19) hx hb dX4_gives_15 (by decide) (fun c15 => ?_) (fun c15 => ?_)
      · replace h := fx_ite_t c15 h
        refine lv_aload_n hx hb dX4_gives_19 rfl (lv_at hl 0 rfl) ?_
        refine lv_iload_n hx hb dX4_gives_20 rfl (lv_at hl 3 rfl) ?_
        refine va_put (D := D) (ci := 4) (v := .int p3) (ty := .int) (C := RX4) (T := TX4) (N := 16) hx hb hts i4 tyX4 tyX4_ok nmX4 hown hK hP hD hS 0 rfl rfl 14 (by decide) f170 (fun _ h9 => h9) rfl (by decide +kernel) rfl rfl (Nat.le_of_ble_eq_true rfl) dX4_gives_21 (fun H locs hP hD hS => ?_)
        replace hP : va_P D vwCl (cM a cI ss mm im wa hi le ro re lm rm pl nu gi bg p3 sd) H := hP
        replace hD : va_D A (cM a cI ss mm im wa hi le ro re lm rm pl nu gi bg p3 sd) := hD
        refine lv_iconst (v := 0) hx hb dX4_gives_24 (by decide) ?_
        refine lv_istore (lv' := [(4, .int (0 : Int32)), (0, .ref (a 0)), (1, .int p1), (2, .int p2), (3, .int p3)]) hx hb dX4_gives_25 hl (by decide) rfl (fun ls hl => ?_)
        exact L27 FU _ _ _ _ h  _ _ _ hP hD hS (lv_sub hl [1, 0] rfl)
      · replace h := fx_ite_f c15 h
        obtain ⟨rfl, rfl, rfl⟩ := rtv3 h
        exact rV hQ hx hb hr hlocks hAe hP hS dX4_gives_18
theorem c_X4_gives (l : Launch) (D : va_G) (cI : ClassId) (a : Nat → Nat) (ss : (Nat → Int32)) (mm : (Nat → Int32)) (im : (Nat → Int32)) (wa : (Nat → Int32)) (hi : Int32) (le : (Nat → Int32)) (ro : (Nat → Int32)) (re : (Nat → Int32)) (lm : Int32) (rm : Int32) (pl : Int32) (nu : (Nat → Int32)) (gi : (Nat → Int32)) (bg : (Nat → Int32)) (bm : Int32) (sd : Int32) (p1 : Int32) (p2 : Int32) (p3 : Int32) (u_gi : (Nat → Int32)) (u_bg : (Nat → Int32)) (u_bm : Int32) (h : M_X4_gives 11 ss gi bg bm p1 p2 p3 = some (u_gi, u_bg, u_bm)) : mV l yX4_gives wsX4_gives { frames := 15, cells := 0, slots := 0, locals := 351 } D cI [.ref (a 0), .int p1, .int p2, .int p3] (cM a cI ss mm im wa hi le ro re lm rm pl nu gi bg bm sd) (cM a cI ss mm im wa hi le ro re lm rm pl nu u_gi u_bg u_bm sd) := c_X4_gives_d l D cI 11 a ss mm im wa hi le ro re lm rm pl nu gi bg bm sd p1 p2 p3 u_gi u_bg u_bm h
/-! X4_together -/
set_option maxHeartbeats 4000000 in
set_option maxRecDepth 100000 in
theorem c_X4_together (l : Launch) (D : va_G) (cI : ClassId) (a : Nat → Nat) (ss : (Nat → Int32)) (mm : (Nat → Int32)) (im : (Nat → Int32)) (wa : (Nat → Int32)) (hi : Int32) (le : (Nat → Int32)) (ro : (Nat → Int32)) (re : (Nat → Int32)) (lm : Int32) (rm : Int32) (pl : Int32) (nu : (Nat → Int32)) (gi : (Nat → Int32)) (bg : (Nat → Int32)) (bm : Int32) (sd : Int32) (p1 : Int32) (res : Int32) (u_re : (Nat → Int32)) (u_gi : (Nat → Int32)) (u_bg : (Nat → Int32)) (u_bm : Int32) (h : M_X4_together ss re gi bg bm p1 = some (res, u_re, u_gi, u_bg, u_bm)) : mI l yX4_together wsX4_together { frames := 16, cells := 0, slots := 0, locals := 375 } D cI [.ref (a 0), .int p1] (cM a cI ss mm im wa hi le ro re lm rm pl nu gi bg bm sd) (cM a cI ss mm im wa hi le ro u_re lm rm pl nu u_gi u_bg u_bm sd) res := by
  intro sz
  refine mStart (cc := cX4_together) (maxL := 2) (ret := (some .int)) (own := RX4) (by decide) rfl rfl (Nat.le_of_ble_eq_true rfl) (lv := [(0, .ref (a 0)), (1, .int p1)]) rfl ?_
  intro p e s m args below meth c A ls Q H locs CF hr hlocks hK hP hD hS hA hAe hl hQ
  obtain ⟨hx, hb, hml, hown, hts⟩ := id CF
  have f37 := hts (.fieldLink RX4 37 "MendAnothersBreakingModel" "bestGiven" "[I") (List.mem_of_getElem? (i := 2) rfl)
  have f170 := hts (.fieldLink RX4 170 "MendAnothersBreakingModel" "bestMany" "I") (List.mem_of_getElem? (i := 1) rfl)
  have i4 : ∀ w ∈ wsX40, w ∈ wsX4_together := fun w h => List.mem_cons_of_mem _ (List.mem_append_right _ h)
  unfold M_X4_together at h
  refine lv_iload_n hx hb dX4_together_0 rfl (lv_at hl 1 rfl) ?_
  refine lv_iconst (v := (-1)) hx hb dX4_together_1 (by decide) ?_
  refine lv_icmp_eq (tgt := 19) hx hb dX4_together_2 (by decide) (fun c2 => ?_) (fun c2 => ?_)
  · replace h := fx_ite_t c2 h
    refine lv_aload_n hx hb dX4_together_19 rfl (lv_at hl 0 rfl) ?_
    refine lv_iconst (v := (-1)) hx hb dX4_together_20 (by decide) ?_
    refine va_put (D := D) (ci := 4) (v := .int (-1 : Int32)) (ty := .int) (C := RX4) (T := TX4) (N := 16) hx hb hts i4 tyX4 tyX4_ok nmX4 hown hK hP hD hS 0 rfl rfl 14 (by decide) f170 (fun _ h9 => h9) rfl (by decide +kernel) rfl rfl (Nat.le_of_ble_eq_true rfl) dX4_together_21 (fun H locs hP hD hS => ?_)
    replace hP : va_P D vwCl (cM a cI ss mm im wa hi le ro re lm rm pl nu gi bg (-1 : Int32) sd) H := hP
    replace hD : va_D A (cM a cI ss mm im wa hi le ro re lm rm pl nu gi bg (-1 : Int32) sd) := hD
    refine lv_aload_n hx hb dX4_together_24 rfl (lv_at hl 0 rfl) ?_
    refine lv_iconst (v := 0) hx hb dX4_together_25 (by decide) ?_
    refine lv_iconst (v := 0) hx hb dX4_together_26 (by decide) ?_
    refine lv_iconst (v := 0) hx hb dX4_together_27 (by decide) ?_
    obtain ⟨u28_gi, u28_bg, u28_bm, q28, h⟩ := bnd3_inv h
    refine kVV (n := 3) (As := [.int (0 : Int32), .int (0 : Int32), .int (0 : Int32)]) (rest := []) CF hl hK hP hD hS hA (c_X4_gives l D cI a ss mm im wa hi le ro re lm rm pl nu gi bg (-1 : Int32) sd (0 : Int32) (0 : Int32) (0 : Int32) u28_gi u28_bg u28_bm q28) gX4_together_X4_gives rfl dX4_together_28 (by decide +kernel) ⟨⟨rfl, rfl⟩, ⟨Nat.le_of_ble_eq_true rfl, Nat.le_of_ble_eq_true rfl⟩, Nat.zero_le _, Nat.zero_le _⟩ (JN.whole (w1 := (cM a cI ss mm im wa hi le ro re lm rm pl nu u28_gi u28_bg u28_bm sd)) rfl) 0 rfl ⟨rfl, rfl⟩ rfl rfl (Nat.le_of_ble_eq_true rfl) (fun H locs hP hD hS => ?_)
    replace hP : va_P D vwCl (cM a cI ss mm im wa hi le ro re lm rm pl nu u28_gi u28_bg u28_bm sd) H := hP
    replace hD : va_D A (cM a cI ss mm im wa hi le ro re lm rm pl nu u28_gi u28_bg u28_bm sd) := hD
    refine lv_iload_n hx hb dX4_together_31 rfl (lv_at hl 1 rfl) ?_
    refine lv_if_ge (tgt := 42) hx hb dX4_together_32 (by decide) (fun c32 => ?_) (fun c32 => ?_)
    · replace h := fx_ite_t c32 h
      refine lv_aload_n hx hb dX4_together_42 rfl (lv_at hl 0 rfl) ?_
      refine va_get (D := D) (ci := 4) (v := .ref (a 10)) (C := RX4) (T := TX4) (N := 16) hx hb hts i4 hown hK hP 0 rfl rfl 13 (by decide) f37 (fun _ h9 => h9) rfl dX4_together_43 ?_
      refine lv_iload_n hx hb dX4_together_46 rfl (lv_at hl 1 rfl) ?_
      obtain ⟨g47, h⟩ := chk_inv h
      refine va_iald (n := 9) (f := u28_bg) hx hb hK hP 10 0 rfl rfl g47 dX4_together_47 ?_
      obtain ⟨rfl, rfl, rfl, rfl, rfl⟩ := rtv5 h
      exact rI hQ hx hb hr hlocks hAe hP hS rfl rfl dX4_together_48
    · replace h := fx_ite_f c32 h
      refine lv_aload_n hx hb dX4_together_35 rfl (lv_at hl 0 rfl) ?_
      refine va_get (D := D) (ci := 4) (v := .int u28_bm) (C := RX4) (T := TX4) (N := 16) hx hb hts i4 hown hK hP 0 rfl rfl 14 (by decide) f170 (fun _ h9 => h9) rfl dX4_together_36 ?_
      refine lv_goto (tgt := 48) hx hb dX4_together_39 (by decide) ?_
      obtain ⟨rfl, rfl, rfl, rfl, rfl⟩ := rtv5 h
      exact rI hQ hx hb hr hlocks hAe hP hS rfl rfl dX4_together_48
  · replace h := fx_ite_f c2 h
    refine lv_aload_n hx hb dX4_together_5 rfl (lv_at hl 0 rfl) ?_
    refine lv_iload_n hx hb dX4_together_6 rfl (lv_at hl 1 rfl) ?_
    obtain ⟨r7, q7, h⟩ := bnd1_inv h
    refine kVI (n := 1) (As := [.int p1]) (rest := []) CF hl hK hP hD hS hA (c_X4_isThing l D cI a ss mm im wa hi le ro re lm rm pl nu gi bg bm sd p1 r7 q7) gX4_together_X4_isThing rfl dX4_together_7 (by decide +kernel) ⟨⟨rfl, rfl⟩, ⟨Nat.le_of_ble_eq_true rfl, Nat.le_of_ble_eq_true rfl⟩, Nat.zero_le _, Nat.zero_le _⟩ (JN.whole rfl) 0 rfl ⟨rfl, rfl⟩ rfl rfl (Nat.le_of_ble_eq_true rfl) (fun H locs hP hD hS => ?_)
    replace hP : va_P D vwCl (cM a cI ss mm im wa hi le ro re lm rm pl nu gi bg bm sd) H := hP
    replace hD : va_D A (cM a cI ss mm im wa hi le ro re lm rm pl nu gi bg bm sd) := hD
    refine lv_if_ne (tgt := 19) hx hb dX4_together_10 (by decide) (fun c10 => ?_) (fun c10 => ?_)
    · replace h := fx_ite_f c10 h
      refine lv_aload_n hx hb dX4_together_19 rfl (lv_at hl 0 rfl) ?_
      refine lv_iconst (v := (-1)) hx hb dX4_together_20 (by decide) ?_
      refine va_put (D := D) (ci := 4) (v := .int (-1 : Int32)) (ty := .int) (C := RX4) (T := TX4) (N := 16) hx hb hts i4 tyX4 tyX4_ok nmX4 hown hK hP hD hS 0 rfl rfl 14 (by decide) f170 (fun _ h9 => h9) rfl (by decide +kernel) rfl rfl (Nat.le_of_ble_eq_true rfl) dX4_together_21 (fun H locs hP hD hS => ?_)
      replace hP : va_P D vwCl (cM a cI ss mm im wa hi le ro re lm rm pl nu gi bg (-1 : Int32) sd) H := hP
      replace hD : va_D A (cM a cI ss mm im wa hi le ro re lm rm pl nu gi bg (-1 : Int32) sd) := hD
      refine lv_aload_n hx hb dX4_together_24 rfl (lv_at hl 0 rfl) ?_
      refine lv_iconst (v := 0) hx hb dX4_together_25 (by decide) ?_
      refine lv_iconst (v := 0) hx hb dX4_together_26 (by decide) ?_
      refine lv_iconst (v := 0) hx hb dX4_together_27 (by decide) ?_
      obtain ⟨u28_gi, u28_bg, u28_bm, q28, h⟩ := bnd3_inv h
      refine kVV (n := 3) (As := [.int (0 : Int32), .int (0 : Int32), .int (0 : Int32)]) (rest := []) CF hl hK hP hD hS hA (c_X4_gives l D cI a ss mm im wa hi le ro re lm rm pl nu gi bg (-1 : Int32) sd (0 : Int32) (0 : Int32) (0 : Int32) u28_gi u28_bg u28_bm q28) gX4_together_X4_gives rfl dX4_together_28 (by decide +kernel) ⟨⟨rfl, rfl⟩, ⟨Nat.le_of_ble_eq_true rfl, Nat.le_of_ble_eq_true rfl⟩, Nat.zero_le _, Nat.zero_le _⟩ (JN.whole (w1 := (cM a cI ss mm im wa hi le ro re lm rm pl nu u28_gi u28_bg u28_bm sd)) rfl) 0 rfl ⟨rfl, rfl⟩ rfl rfl (Nat.le_of_ble_eq_true rfl) (fun H locs hP hD hS => ?_)
      replace hP : va_P D vwCl (cM a cI ss mm im wa hi le ro re lm rm pl nu u28_gi u28_bg u28_bm sd) H := hP
      replace hD : va_D A (cM a cI ss mm im wa hi le ro re lm rm pl nu u28_gi u28_bg u28_bm sd) := hD
      refine lv_iload_n hx hb dX4_together_31 rfl (lv_at hl 1 rfl) ?_
      refine lv_if_ge (tgt := 42) hx hb dX4_together_32 (by decide) (fun c32 => ?_) (fun c32 => ?_)
      · replace h := fx_ite_t c32 h
        refine lv_aload_n hx hb dX4_together_42 rfl (lv_at hl 0 rfl) ?_
        refine va_get (D := D) (ci := 4) (v := .ref (a 10)) (C := RX4) (T := TX4) (N := 16) hx hb hts i4 hown hK hP 0 rfl rfl 13 (by decide) f37 (fun _ h9 => h9) rfl dX4_together_43 ?_
        refine lv_iload_n hx hb dX4_together_46 rfl (lv_at hl 1 rfl) ?_
        obtain ⟨g47, h⟩ := chk_inv h
        refine va_iald (n := 9) (f := u28_bg) hx hb hK hP 10 0 rfl rfl g47 dX4_together_47 ?_
        obtain ⟨rfl, rfl, rfl, rfl, rfl⟩ := rtv5 h
        exact rI hQ hx hb hr hlocks hAe hP hS rfl rfl dX4_together_48
      · replace h := fx_ite_f c32 h
        refine lv_aload_n hx hb dX4_together_35 rfl (lv_at hl 0 rfl) ?_
        refine va_get (D := D) (ci := 4) (v := .int u28_bm) (C := RX4) (T := TX4) (N := 16) hx hb hts i4 hown hK hP 0 rfl rfl 14 (by decide) f170 (fun _ h9 => h9) rfl dX4_together_36 ?_
        refine lv_goto (tgt := 48) hx hb dX4_together_39 (by decide) ?_
        obtain ⟨rfl, rfl, rfl, rfl, rfl⟩ := rtv5 h
        exact rI hQ hx hb hr hlocks hAe hP hS rfl rfl dX4_together_48
    · replace h := fx_ite_t c10 h
      refine lv_aload_n hx hb dX4_together_13 rfl (lv_at hl 0 rfl) ?_
      refine lv_iconst (v := (-1)) hx hb dX4_together_14 (by decide) ?_
      obtain ⟨r15, u15_re, q15, h⟩ := bnd2_inv h
      refine kVI (n := 1) (As := [.int (-1 : Int32)]) (rest := []) CF hl hK hP hD hS hA (c_X4_no l D cI a ss mm im wa hi le ro re lm rm pl nu gi bg bm sd (-1 : Int32) r15 u15_re q15) gX4_together_X4_no rfl dX4_together_15 (by decide +kernel) ⟨⟨rfl, rfl⟩, ⟨Nat.le_of_ble_eq_true rfl, Nat.le_of_ble_eq_true rfl⟩, Nat.zero_le _, Nat.zero_le _⟩ (JN.whole (w1 := (cM a cI ss mm im wa hi le ro u15_re lm rm pl nu gi bg bm sd)) rfl) 0 rfl ⟨rfl, rfl⟩ rfl rfl (Nat.le_of_ble_eq_true rfl) (fun H locs hP hD hS => ?_)
      replace hP : va_P D vwCl (cM a cI ss mm im wa hi le ro u15_re lm rm pl nu gi bg bm sd) H := hP
      replace hD : va_D A (cM a cI ss mm im wa hi le ro u15_re lm rm pl nu gi bg bm sd) := hD
      obtain ⟨rfl, rfl, rfl, rfl, rfl⟩ := rtv5 h
      exact rI hQ hx hb hr hlocks hAe hP hS rfl rfl dX4_together_18
