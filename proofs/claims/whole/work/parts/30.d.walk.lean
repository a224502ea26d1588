/-! X4_addsThing -/
set_option maxHeartbeats 4000000 in
set_option maxRecDepth 100000 in
theorem c_X4_addsThing (l : Launch) (D : va_G) (cI : ClassId) (a : Nat → Nat) (ss : (Nat → Int32)) (mm : (Nat → Int32)) (im : (Nat → Int32)) (wa : (Nat → Int32)) (hi : Int32) (le : (Nat → Int32)) (ro : (Nat → Int32)) (re : (Nat → Int32)) (lm : Int32) (rm : Int32) (pl : Int32) (nu : (Nat → Int32)) (gi : (Nat → Int32)) (bg : (Nat → Int32)) (bm : Int32) (sd : Int32) (p1 : Int32) (p2 : Int32) (p3 : Int32) (res : Int32) (u_ss : (Nat → Int32)) (h : M_X4_addsThing ss p1 p2 p3 = some (res, u_ss)) : mI l yX4_addsThing wsX4_addsThing { frames := 2, cells := 0, slots := 0, locals := 43 } D cI [.ref (a 0), .int p1, .int p2, .int p3] (cM a cI ss mm im wa hi le ro re lm rm pl nu gi bg bm sd) (cM a cI u_ss mm im wa hi le ro re lm rm pl nu gi bg bm sd) res := by
  intro sz
  refine mStart (cc := cX4_addsThing) (maxL := 5) (ret := (some .boolean)) (own := RX4) (by decide) rfl rfl (Nat.le_of_ble_eq_true rfl) (lv := [(0, .ref (a 0)), (1, .int p1), (2, .int p2), (3, .int p3)]) rfl ?_
  intro p e s m args below meth c A ls Q H locs CF hr hlocks hK hP hD hS hA hAe hl hQ
  obtain ⟨hx, hb, hml, hown, hts⟩ := id CF
  have f9 := hts (.fieldLink RX4 9 "MendAnothersBreakingModel" "s" "[I") (List.mem_of_getElem? (i := 1) rfl)
  have i4 : ∀ w ∈ wsX40, w ∈ wsX4_addsThing := fun w h => List.mem_cons_of_mem _ (List.mem_append_right _ h)
  unfold M_X4_addsThing at h
  refine lv_aload_n hx hb dX4_addsThing_0 rfl (lv_at hl 0 rfl) ?_
  refine lv_iload_n hx hb dX4_addsThing_1 rfl (lv_at hl 3 rfl) ?_
  obtain ⟨r2, q2, h⟩ := bnd1_inv h
  refine kVI (n := 1) (As := [.int p3]) (rest := []) CF hl hK hP hD hS hA (c_X4_isPerson l D cI a ss mm im wa hi le ro re lm rm pl nu gi bg bm sd p3 r2 q2) gX4_addsThing_X4_isPerson rfl dX4_addsThing_2 (by decide +kernel) ⟨⟨rfl, rfl⟩, ⟨Nat.le_of_ble_eq_true rfl, Nat.le_of_ble_eq_true rfl⟩, Nat.zero_le _, Nat.zero_le _⟩ (JN.whole rfl) 0 rfl ⟨rfl, rfl⟩ rfl rfl (Nat.le_of_ble_eq_true rfl) (fun H locs hP hD hS => ?_)
  replace hP : va_P D vwCl (cM a cI ss mm im wa hi le ro re lm rm pl nu gi bg bm sd) H := hP
  replace hD : va_D A (cM a cI ss mm im wa hi le ro re lm rm pl nu gi bg bm sd) := hD
  refine lv_if_eq (tgt := 19) hx hb dX4_addsThing_5 (by decide) (fun c5 => ?_) (fun c5 => ?_)
  · replace h := fx_ite_t c5 h
    refine lv_iconst (v := 0) hx hb dX4_addsThing_19 (by decide) ?_
    obtain ⟨rfl, rfl⟩ := rtv2 h
    exact rI hQ hx hb hr hlocks hAe hP hS rfl rfl dX4_addsThing_20
  · replace h := fx_ite_f c5 h
    refine lv_aload_n hx hb dX4_addsThing_8 rfl (lv_at hl 0 rfl) ?_
    refine va_get (D := D) (ci := 4) (v := .ref (a 1)) (C := RX4) (T := TX4) (N := 16) hx hb hts i4 hown hK hP 0 rfl rfl 0 (by decide) f9 (fun _ h9 => h9) rfl dX4_addsThing_9 ?_
    refine lv_iconst (v := 1) hx hb dX4_addsThing_12 (by decide) ?_
    refine ald (n := 61) (f := ss) (k := 1) hx hb hK hP 1 0 rfl rfl (fx_lit rfl) rfl dX4_addsThing_13 ?_
    refine lv_bipush (v := 9) hx hb dX4_addsThing_14 (by decide) ?_
    refine lv_icmp_ne (tgt := 21) hx hb dX4_addsThing_16 (by decide) (fun c16 => ?_) (fun c16 => ?_)
    · replace h := fx_ite_f c16 h
      refine lv_aload_n hx hb dX4_addsThing_21 rfl (lv_at hl 0 rfl) ?_
      refine va_get (D := D) (ci := 4) (v := .ref (a 1)) (C := RX4) (T := TX4) (N := 16) hx hb hts i4 hown hK hP 0 rfl rfl 0 (by decide) f9 (fun _ h9 => h9) rfl dX4_addsThing_22 ?_
      refine lv_iconst (v := 1) hx hb dX4_addsThing_25 (by decide) ?_
      refine ald (n := 61) (f := ss) (k := 1) hx hb hK hP 1 0 rfl rfl (fx_lit rfl) rfl dX4_addsThing_26 ?_
      obtain ⟨r27, q27, h⟩ := bnd1_inv h
      refine kSI (n := 1) (As := [.int (ss 1)]) (rest := []) CF hl hK hP hD hS hA (c_X4_ofT l D cI   (ss 1) r27 q27) gX4_addsThing_X4_ofT rfl dX4_addsThing_27 (by decide +kernel) ⟨⟨rfl, rfl⟩, ⟨Nat.le_of_ble_eq_true rfl, Nat.le_of_ble_eq_true rfl⟩, Nat.zero_le _, Nat.zero_le _⟩ (JN.ro [] rfl rfl) rfl rfl (Nat.le_of_ble_eq_true rfl) (fun H locs hP hD hS => ?_)
      refine lv_istore (lv' := [(4, .int r27), (0, .ref (a 0)), (1, .int p1), (2, .int p2), (3, .int p3)]) hx hb dX4_addsThing_30 hl (by decide) rfl (fun ls hl => ?_)
      refine lv_aload_n hx hb dX4_addsThing_32 rfl (lv_at hl 1 rfl) ?_
      refine va_get (D := D) (ci := 4) (v := .ref (a 1)) (C := RX4) (T := TX4) (N := 16) hx hb hts i4 hown hK hP 0 rfl rfl 0 (by decide) f9 (fun _ h9 => h9) rfl dX4_addsThing_33 ?_
      refine lv_iload hx hb dX4_addsThing_36 (lv_at hl 0 rfl) ?_
      refine lv_iconst (v := 0) hx hb dX4_addsThing_38 (by decide) ?_
      refine lv_iadd hx hb dX4_addsThing_39 ?_
      refine lv_iload_n hx hb dX4_addsThing_40 rfl (lv_at hl 2 rfl) ?_
      obtain ⟨g41, h⟩ := chk_inv h
      refine va_iast (n := 61) (f := ss) hx hb hK hP hD hS 1 0 rfl rfl g41 dX4_addsThing_41 (fun H locs hP hD hS => ?_)
      replace hP : va_P D vwCl (cM a cI (upd ss (Int32.toNatClampNeg (r27 + (0 : Int32))) p1) mm im wa hi le ro re lm rm pl nu gi bg bm sd) H := hP
      replace hD : va_D A (cM a cI (upd ss (Int32.toNatClampNeg (r27 + (0 : Int32))) p1) mm im wa hi le ro re lm rm pl nu gi bg bm sd) := hD
      refine lv_aload_n hx hb dX4_addsThing_42 rfl (lv_at hl 1 rfl) ?_
      refine va_get (D := D) (ci := 4) (v := .ref (a 1)) (C := RX4) (T := TX4) (N := 16) hx hb hts i4 hown hK hP 0 rfl rfl 0 (by decide) f9 (fun _ h9 => h9) rfl dX4_addsThing_43 ?_
      refine lv_iload hx hb dX4_addsThing_46 (lv_at hl 0 rfl) ?_
      refine lv_iconst (v := 1) hx hb dX4_addsThing_48 (by decide) ?_
      refine lv_iadd hx hb dX4_addsThing_49 ?_
      refine lv_iload_n hx hb dX4_addsThing_50 rfl (lv_at hl 3 rfl) ?_
      obtain ⟨g51, h⟩ := chk_inv h
      refine va_iast (n := 61) (f := (upd ss (Int32.toNatClampNeg (r27 + (0 : Int32))) p1)) hx hb hK hP hD hS 1 0 rfl rfl g51 dX4_addsThing_51 (fun H locs hP hD hS => ?_)
      replace hP : va_P D vwCl (cM a cI (upd (upd ss (Int32.toNatClampNeg (r27 + (0 : Int32))) p1) (Int32.toNatClampNeg (r27 + (1 : Int32))) p2) mm im wa hi le ro re lm rm pl nu gi bg bm sd) H := hP
      replace hD : va_D A (cM a cI (upd (upd ss (Int32.toNatClampNeg (r27 + (0 : Int32))) p1) (Int32.toNatClampNeg (r27 + (1 : Int32))) p2) mm im wa hi le ro re lm rm pl nu gi bg bm sd) := hD
      refine lv_aload_n hx hb dX4_addsThing_52 rfl (lv_at hl 1 rfl) ?_
      refine va_get (D := D) (ci := 4) (v := .ref (a 1)) (C := RX4) (T := TX4) (N := 16) hx hb hts i4 hown hK hP 0 rfl rfl 0 (by decide) f9 (fun _ h9 => h9) rfl dX4_addsThing_53 ?_
      refine lv_iload hx hb dX4_addsThing_56 (lv_at hl 0 rfl) ?_
      refine lv_iconst (v := 2) hx hb dX4_addsThing_58 (by decide) ?_
      refine lv_iadd hx hb dX4_addsThing_59 ?_
      refine lv_iload_n hx hb dX4_addsThing_60 rfl (lv_at hl 4 rfl) ?_
      obtain ⟨g61, h⟩ := chk_inv h
      refine va_iast (n := 61) (f := (upd (upd ss (Int32.toNatClampNeg (r27 + (0 : Int32))) p1) (Int32.toNatClampNeg (r27 + (1 : Int32))) p2)) hx hb hK hP hD hS 1 0 rfl rfl g61 dX4_addsThing_61 (fun H locs hP hD hS => ?_)
      replace hP : va_P D vwCl (cM a cI (upd (upd (upd ss (Int32.toNatClampNeg (r27 + (0 : Int32))) p1) (Int32.toNatClampNeg (r27 + (1 : Int32))) p2) (Int32.toNatClampNeg (r27 + (2 : Int32))) p3) mm im wa hi le ro re lm rm pl nu gi bg bm sd) H := hP
      replace hD : va_D A (cM a cI (upd (upd (upd ss (Int32.toNatClampNeg (r27 + (0 : Int32))) p1) (Int32.toNatClampNeg (r27 + (1 : Int32))) p2) (Int32.toNatClampNeg (r27 + (2 : Int32))) p3) mm im wa hi le ro re lm rm pl nu gi bg bm sd) := hD
      refine lv_aload_n hx hb dX4_addsThing_62 rfl (lv_at hl 1 rfl) ?_
      refine va_get (D := D) (ci := 4) (v := .ref (a 1)) (C := RX4) (T := TX4) (N := 16) hx hb hts i4 hown hK hP 0 rfl rfl 0 (by decide) f9 (fun _ h9 => h9) rfl dX4_addsThing_63 ?_
      refine lv_iload hx hb dX4_addsThing_66 (lv_at hl 0 rfl) ?_
      refine lv_iconst (v := 3) hx hb dX4_addsThing_68 (by decide) ?_
      refine lv_iadd hx hb dX4_addsThing_69 ?_
      refine lv_iconst (v := 0) hx hb dX4_addsThing_70 (by decide) ?_
      obtain ⟨g71, h⟩ := chk_inv h
      refine va_iast (n := 61) (f := (upd (upd (upd ss (Int32.toNatClampNeg (r27 + (0 : Int32))) p1) (Int32.toNatClampNeg (r27 + (1 : Int32))) p2) (Int32.toNatClampNeg (r27 + (2 : Int32))) p3)) hx hb hK hP hD hS 1 0 rfl rfl g71 dX4_addsThing_71 (fun H locs hP hD hS => ?_)
      replace hP : va_P D vwCl (cM a cI (upd (upd (upd (upd ss (Int32.toNatClampNeg (r27 + (0 : Int32))) p1) (Int32.toNatClampNeg (r27 + (1 : Int32))) p2) (Int32.toNatClampNeg (r27 + (2 : Int32))) p3) (Int32.toNatClampNeg (r27 + (3 : Int32))) (0 : Int32)) mm im wa hi le ro re lm rm pl nu gi bg bm sd) H := hP
      replace hD : va_D A (cM a cI (upd (upd (upd (upd ss (Int32.toNatClampNeg (r27 + (0 : Int32))) p1) (Int32.toNatClampNeg (r27 + (1 : Int32))) p2) (Int32.toNatClampNeg (r27 + (2 : Int32))) p3) (Int32.toNatClampNeg (r27 + (3 : Int32))) (0 : Int32)) mm im wa hi le ro re lm rm pl nu gi bg bm sd) := hD
      refine lv_aload_n hx hb dX4_addsThing_72 rfl (lv_at hl 1 rfl) ?_
      refine va_get (D := D) (ci := 4) (v := .ref (a 1)) (C := RX4) (T := TX4) (N := 16) hx hb hts i4 hown hK hP 0 rfl rfl 0 (by decide) f9 (fun _ h9 => h9) rfl dX4_addsThing_73 ?_
      refine lv_iload hx hb dX4_addsThing_76 (lv_at hl 0 rfl) ?_
      refine lv_iconst (v := 4) hx hb dX4_addsThing_78 (by decide) ?_
      refine lv_iadd hx hb dX4_addsThing_79 ?_
      refine lv_bipush (v := (-9)) hx hb dX4_addsThing_80 (by decide) ?_
      obtain ⟨g82, h⟩ := chk_inv h
      refine va_iast (n := 61) (f := (upd (upd (upd (upd ss (Int32.toNatClampNeg (r27 + (0 : Int32))) p1) (Int32.toNatClampNeg (r27 + (1 : Int32))) p2) (Int32.toNatClampNeg (r27 + (2 : Int32))) p3) (Int32.toNatClampNeg (r27 + (3 : Int32))) (0 : Int32))) hx hb hK hP hD hS 1 0 rfl rfl g82 dX4_addsThing_82 (fun H locs hP hD hS => ?_)
      replace hP : va_P D vwCl (cM a cI (upd (upd (upd (upd (upd ss (Int32.toNatClampNeg (r27 + (0 : Int32))) p1) (Int32.toNatClampNeg (r27 + (1 : Int32))) p2) (Int32.toNatClampNeg (r27 + (2 : Int32))) p3) (Int32.toNatClampNeg (r27 + (3 : Int32))) (0 : Int32)) (Int32.toNatClampNeg (r27 + (4 : Int32))) (-9 : Int32)) mm im wa hi le ro re lm rm pl nu gi bg bm sd) H := hP
      replace hD : va_D A (cM a cI (upd (upd (upd (upd (upd ss (Int32.toNatClampNeg (r27 + (0 : Int32))) p1) (Int32.toNatClampNeg (r27 + (1 : Int32))) p2) (Int32.toNatClampNeg (r27 + (2 : Int32))) p3) (Int32.toNatClampNeg (r27 + (3 : Int32))) (0 : Int32)) (Int32.toNatClampNeg (r27 + (4 : Int32))) (-9 : Int32)) mm im wa hi le ro re lm rm pl nu gi bg bm sd) := hD
      refine lv_aload_n hx hb dX4_addsThing_83 rfl (lv_at hl 1 rfl) ?_
      refine va_get (D := D) (ci := 4) (v := .ref (a 1)) (C := RX4) (T := TX4) (N := 16) hx hb hts i4 hown hK hP 0 rfl rfl 0 (by decide) f9 (fun _ h9 => h9) rfl dX4_addsThing_84 ?_
      refine lv_iconst (v := 1) hx hb dX4_addsThing_87 (by decide) ?_
      refine lv_dup2_11 hx hb dX4_addsThing_88 rfl rfl ?_
      refine ald (n := 61) (f := (upd (upd (upd (upd (upd ss (Int32.toNatClampNeg (r27 + (0 : Int32))) p1) (Int32.toNatClampNeg (r27 + (1 : Int32))) p2) (Int32.toNatClampNeg (r27 + (2 : Int32))) p3) (Int32.toNatClampNeg (r27 + (3 : Int32))) (0 : Int32)) (Int32.toNatClampNeg (r27 + (4 : Int32))) (-9 : Int32))) (k := 1) hx hb hK hP 1 0 rfl rfl (fx_lit rfl) rfl dX4_addsThing_89 ?_
      refine lv_iconst (v := 1) hx hb dX4_addsThing_90 (by decide) ?_
      refine lv_iadd hx hb dX4_addsThing_91 ?_
      refine ast (n := 61) (f := (upd (upd (upd (upd (upd ss (Int32.toNatClampNeg (r27 + (0 : Int32))) p1) (Int32.toNatClampNeg (r27 + (1 : Int32))) p2) (Int32.toNatClampNeg (r27 + (2 : Int32))) p3) (Int32.toNatClampNeg (r27 + (3 : Int32))) (0 : Int32)) (Int32.toNatClampNeg (r27 + (4 : Int32))) (-9 : Int32))) (k := 1) hx hb hK hP hD hS 1 0 rfl rfl (fx_lit rfl) rfl dX4_addsThing_92 (fun H locs hP hD hS => ?_)
      replace hP : va_P D vwCl (cM a cI (upd (upd (upd (upd (upd (upd ss (Int32.toNatClampNeg (r27 + (0 : Int32))) p1) (Int32.toNatClampNeg (r27 + (1 : Int32))) p2) (Int32.toNatClampNeg (r27 + (2 : Int32))) p3) (Int32.toNatClampNeg (r27 + (3 : Int32))) (0 : Int32)) (Int32.toNatClampNeg (r27 + (4 : Int32))) (-9 : Int32)) 1 (((upd (upd (upd (upd (upd ss (Int32.toNatClampNeg (r27 + (0 : Int32))) p1) (Int32.toNatClampNeg (r27 + (1 : Int32))) p2) (Int32.toNatClampNeg (r27 + (2 : Int32))) p3) (Int32.toNatClampNeg (r27 + (3 : Int32))) (0 : Int32)) (Int32.toNatClampNeg (r27 + (4 : Int32))) (-9 : Int32)) 1) + (1 : Int32))) mm im wa hi le ro re lm rm pl nu gi bg bm sd) H := hP
      replace hD : va_D A (cM a cI (upd (upd (upd (upd (upd (upd ss (Int32.toNatClampNeg (r27 + (0 : Int32))) p1) (Int32.toNatClampNeg (r27 + (1 : Int32))) p2) (Int32.toNatClampNeg (r27 + (2 : Int32))) p3) (Int32.toNatClampNeg (r27 + (3 : Int32))) (0 : Int32)) (Int32.toNatClampNeg (r27 + (4 : Int32))) (-9 : Int32)) 1 (((upd (upd (upd (upd (upd ss (Int32.toNatClampNeg (r27 + (0 : Int32))) p1) (Int32.toNatClampNeg (r27 + (1 : Int32))) p2) (Int32.toNatClampNeg (r27 + (2 : Int32))) p3) (Int32.toNatClampNeg (r27 + (3 : Int32))) (0 : Int32)) (Int32.toNatClampNeg (r27 + (4 : Int32))) (-9 : Int32)) 1) + (1 : Int32))) mm im wa hi le ro re lm rm pl nu gi bg bm sd) := hD
      refine lv_iconst (v := 1) hx hb dX4_addsThing_93 (by decide) ?_
      obtain ⟨rfl, rfl⟩ := rtv2 h
      exact rI hQ hx hb hr hlocks hAe hP hS rfl rfl dX4_addsThing_94
    · replace h := fx_ite_t c16 h
      refine lv_iconst (v := 0) hx hb dX4_addsThing_19 (by decide) ?_
      obtain ⟨rfl, rfl⟩ := rtv2 h
      exact rI hQ hx hb hr hlocks hAe hP hS rfl rfl dX4_addsThing_20
/-! X4_isDone -/
set_option maxHeartbeats 4000000 in
set_option maxRecDepth 100000 in
theorem c_X4_isDone (l : Launch) (D : va_G) (cI : ClassId) (a : Nat → Nat) (ss : (Nat → Int32)) (mm : (Nat → Int32)) (im : (Nat → Int32)) (wa : (Nat → Int32)) (hi : Int32) (le : (Nat → Int32)) (ro : (Nat → Int32)) (re : (Nat → Int32)) (lm : Int32) (rm : Int32) (pl : Int32) (nu : (Nat → Int32)) (gi : (Nat → Int32)) (bg : (Nat → Int32)) (bm : Int32) (sd : Int32) (p1 : Int32) (res : Int32) (u_ss : (Nat → Int32)) (h : M_X4_isDone ss nu p1 = some (res, u_ss)) : mI l yX4_isDone wsX4_isDone { frames := 7, cells := 0, slots := 0, locals := 154 } D cI [.ref (a 0), .int p1] (cM a cI ss mm im wa hi le ro re lm rm pl nu gi bg bm sd) (cM a cI u_ss mm im wa hi le ro re lm rm pl nu gi bg bm sd) res := by
  intro sz
  refine mStart (cc := cX4_isDone) (maxL := 4) (ret := (some .boolean)) (own := RX4) (by decide) rfl rfl (Nat.le_of_ble_eq_true rfl) (lv := [(0, .ref (a 0)), (1, .int p1)]) rfl ?_
  intro p e s m args below meth c A ls Q H locs CF hr hlocks hK hP hD hS hA hAe hl hQ
  obtain ⟨hx, hb, hml, hown, hts⟩ := id CF
  have f9 := hts (.fieldLink RX4 9 "MendAnothersBreakingModel" "s" "[I") (List.mem_of_getElem? (i := 2) rfl)
  have f31 := hts (.fieldLink RX4 31 "MendAnothersBreakingModel" "numbers" "[I") (List.mem_of_getElem? (i := 1) rfl)
  have i4 : ∀ w ∈ wsX40, w ∈ wsX4_isDone := fun w h => List.mem_cons_of_mem _ (List.mem_append_right _ h)
  unfold M_X4_isDone at h
  refine lv_aload_n hx hb dX4_isDone_0 rfl (lv_at hl 0 rfl) ?_
  refine va_get (D := D) (ci := 4) (v := .ref (a 8)) (C := RX4) (T := TX4) (N := 16) hx hb hts i4 hown hK hP 0 rfl rfl 11 (by decide) f31 (fun _ h9 => h9) rfl dX4_isDone_1 ?_
  refine lv_iconst (v := 0) hx hb dX4_isDone_4 (by decide) ?_
  refine ald (n := 3) (f := nu) (k := 0) hx hb hK hP 8 0 rfl rfl (fx_lit rfl) rfl dX4_isDone_5 ?_
  refine lv_istore_n (lv' := [(2, .int (nu 0)), (0, .ref (a 0)), (1, .int p1)]) hx hb dX4_isDone_6 rfl hl (by decide) rfl (fun ls hl => ?_)
  refine lv_aload_n hx hb dX4_isDone_7 rfl (lv_at hl 1 rfl) ?_
  refine va_get (D := D) (ci := 4) (v := .ref (a 8)) (C := RX4) (T := TX4) (N := 16) hx hb hts i4 hown hK hP 0 rfl rfl 11 (by decide) f31 (fun _ h9 => h9) rfl dX4_isDone_8 ?_
  refine lv_iconst (v := 1) hx hb dX4_isDone_11 (by decide) ?_
  refine ald (n := 3) (f := nu) (k := 1) hx hb hK hP 8 0 rfl rfl (fx_lit rfl) rfl dX4_isDone_12 ?_
  refine lv_istore_n (lv' := [(3, .int (nu 1)), (2, .int (nu 0)), (0, .ref (a 0)), (1, .int p1)]) hx hb dX4_isDone_13 rfl hl (by decide) rfl (fun ls hl => ?_)
  refine lv_iload_n hx hb dX4_isDone_14 rfl (lv_at hl 3 rfl) ?_
  by_cases s15_98 : p1 = 98
  · replace h := fx_ite_t s15_98 h
    refine lv_lookup (tgt := 91) hx hb dX4_isDone_15 (by decide) (off := 76) (by rw [s15_98]; rfl) (by decide) ?_
    refine lv_aload_n hx hb dX4_isDone_91 rfl (lv_at hl 2 rfl) ?_
    refine lv_iload_n hx hb dX4_isDone_92 rfl (lv_at hl 1 rfl) ?_
    obtain ⟨r93, q93, h⟩ := bnd1_inv h
    refine kVI (n := 1) (As := [.int (nu 0)]) (rest := []) CF hl hK hP hD hS hA (c_X4_isPerson l D cI a ss mm im wa hi le ro re lm rm pl nu gi bg bm sd (nu 0) r93 q93) gX4_isDone_X4_isPerson rfl dX4_isDone_93 (by decide +kernel) ⟨⟨rfl, rfl⟩, ⟨Nat.le_of_ble_eq_true rfl, Nat.le_of_ble_eq_true rfl⟩, Nat.zero_le _, Nat.zero_le _⟩ (JN.whole rfl) 0 rfl ⟨rfl, rfl⟩ rfl rfl (Nat.le_of_ble_eq_true rfl) (fun H locs hP hD hS => ?_)
    replace hP : va_P D vwCl (cM a cI ss mm im wa hi le ro re lm rm pl nu gi bg bm sd) H := hP
    replace hD : va_D A (cM a cI ss mm im wa hi le ro re lm rm pl nu gi bg bm sd) := hD
    refine lv_if_eq (tgt := 118) hx hb dX4_isDone_96 (by decide) (fun c96 => ?_) (fun c96 => ?_)
    · replace h := fx_ite_t c96 h
      refine lv_iconst (v := 0) hx hb dX4_isDone_118 (by decide) ?_
      obtain ⟨rfl, rfl⟩ := rtv2 h
      exact rI hQ hx hb hr hlocks hAe hP hS rfl rfl dX4_isDone_119
    · replace h := fx_ite_f c96 h
      refine lv_aload_n hx hb dX4_isDone_99 rfl (lv_at hl 2 rfl) ?_
      refine lv_iload_n hx hb dX4_isDone_100 rfl (lv_at hl 0 rfl) ?_
      obtain ⟨r101, q101, h⟩ := bnd1_inv h
      refine kVI (n := 1) (As := [.int (nu 1)]) (rest := []) CF hl hK hP hD hS hA (c_X4_isThing l D cI a ss mm im wa hi le ro re lm rm pl nu gi bg bm sd (nu 1) r101 q101) gX4_isDone_X4_isThing rfl dX4_isDone_101 (by decide +kernel) ⟨⟨rfl, rfl⟩, ⟨Nat.le_of_ble_eq_true rfl, Nat.le_of_ble_eq_true rfl⟩, Nat.zero_le _, Nat.zero_le _⟩ (JN.whole rfl) 0 rfl ⟨rfl, rfl⟩ rfl rfl (Nat.le_of_ble_eq_true rfl) (fun H locs hP hD hS => ?_)
      replace hP : va_P D vwCl (cM a cI ss mm im wa hi le ro re lm rm pl nu gi bg bm sd) H := hP
      replace hD : va_D A (cM a cI ss mm im wa hi le ro re lm rm pl nu gi bg bm sd) := hD
      refine lv_if_eq (tgt := 118) hx hb dX4_isDone_104 (by decide) (fun c104 => ?_) (fun c104 => ?_)
      · replace h := fx_ite_t c104 h
        refine lv_iconst (v := 0) hx hb dX4_isDone_118 (by decide) ?_
        obtain ⟨rfl, rfl⟩ := rtv2 h
        exact rI hQ hx hb hr hlocks hAe hP hS rfl rfl dX4_isDone_119
      · replace h := fx_ite_f c104 h
        refine lv_aload_n hx hb dX4_isDone_107 rfl (lv_at hl 2 rfl) ?_
        refine va_get (D := D) (ci := 4) (v := .ref (a 1)) (C := RX4) (T := TX4) (N := 16) hx hb hts i4 hown hK hP 0 rfl rfl 0 (by decide) f9 (fun _ h9 => h9) rfl dX4_isDone_108 ?_
        refine lv_iload_n hx hb dX4_isDone_111 rfl (lv_at hl 0 rfl) ?_
        obtain ⟨r112, q112, h⟩ := bnd1_inv h
        refine kSI (n := 2) (As := [.ref (a 1), .int (nu 1)]) (rest := []) CF hl hK hP hD hS hA (c_X4_isWhole l D cI (a 1) ss (nu 1) r112 q112) gX4_isDone_X4_isWhole rfl dX4_isDone_112 (by decide +kernel) ⟨⟨rfl, rfl⟩, ⟨Nat.le_of_ble_eq_true rfl, Nat.le_of_ble_eq_true rfl⟩, Nat.zero_le _, Nat.zero_le _⟩ (JN.ro [1] rfl rfl) rfl rfl (Nat.le_of_ble_eq_true rfl) (fun H locs hP hD hS => ?_)
        refine lv_if_ne (tgt := 120) hx hb dX4_isDone_115 (by decide) (fun c115 => ?_) (fun c115 => ?_)
        · replace h := fx_ite_f c115 h
          refine lv_aload_n hx hb dX4_isDone_120 rfl (lv_at hl 2 rfl) ?_
          refine va_get (D := D) (ci := 4) (v := .ref (a 1)) (C := RX4) (T := TX4) (N := 16) hx hb hts i4 hown hK hP 0 rfl rfl 0 (by decide) f9 (fun _ h9 => h9) rfl dX4_isDone_121 ?_
          refine lv_iload_n hx hb dX4_isDone_124 rfl (lv_at hl 0 rfl) ?_
          obtain ⟨r125, q125, h⟩ := bnd1_inv h
          refine kSI (n := 1) (As := [.int (nu 1)]) (rest := [.ref (a 1)]) CF hl hK hP hD hS hA (c_X4_ofT l D cI   (nu 1) r125 q125) gX4_isDone_X4_ofT rfl dX4_isDone_125 (by decide +kernel) ⟨⟨rfl, rfl⟩, ⟨Nat.le_of_ble_eq_true rfl, Nat.le_of_ble_eq_true rfl⟩, Nat.zero_le _, Nat.zero_le _⟩ (JN.ro [] rfl rfl) rfl rfl (Nat.le_of_ble_eq_true rfl) (fun H locs hP hD hS => ?_)
          refine lv_iconst (v := 4) hx hb dX4_isDone_128 (by decide) ?_
          refine lv_iadd hx hb dX4_isDone_129 ?_
          refine lv_iload_n hx hb dX4_isDone_130 rfl (lv_at hl 1 rfl) ?_
          obtain ⟨g131, h⟩ := chk_inv h
          refine va_iast (n := 61) (f := ss) hx hb hK hP hD hS 1 0 rfl rfl g131 dX4_isDone_131 (fun H locs hP hD hS => ?_)
          replace hP : va_P D vwCl (cM a cI (upd ss (Int32.toNatClampNeg (r125 + (4 : Int32))) (nu 0)) mm im wa hi le ro re lm rm pl nu gi bg bm sd) H := hP
          replace hD : va_D A (cM a cI (upd ss (Int32.toNatClampNeg (r125 + (4 : Int32))) (nu 0)) mm im wa hi le ro re lm rm pl nu gi bg bm sd) := hD
          refine lv_iconst (v := 1) hx hb dX4_isDone_132 (by decide) ?_
          obtain ⟨rfl, rfl⟩ := rtv2 h
          exact rI hQ hx hb hr hlocks hAe hP hS rfl rfl dX4_isDone_133
        · replace h := fx_ite_t c115 h
          refine lv_iconst (v := 0) hx hb dX4_isDone_118 (by decide) ?_
          obtain ⟨rfl, rfl⟩ := rtv2 h
          exact rI hQ hx hb hr hlocks hAe hP hS rfl rfl dX4_isDone_119
  replace h := fx_ite_f s15_98 h
  by_cases s15_110 : p1 = 110
  · replace h := fx_ite_t s15_110 h
    refine lv_lookup (tgt := 134) hx hb dX4_isDone_15 (by decide) (off := 119) (by rw [s15_110]; rfl) (by decide) ?_
    refine lv_aload_n hx hb dX4_isDone_134 rfl (lv_at hl 2 rfl) ?_
    refine lv_iload_n hx hb dX4_isDone_135 rfl (lv_at hl 1 rfl) ?_
    obtain ⟨r136, q136, h⟩ := bnd1_inv h
    refine kVI (n := 1) (As := [.int (nu 0)]) (rest := []) CF hl hK hP hD hS hA (c_X4_isThing l D cI a ss mm im wa hi le ro re lm rm pl nu gi bg bm sd (nu 0) r136 q136) gX4_isDone_X4_isThing rfl dX4_isDone_136 (by decide +kernel) ⟨⟨rfl, rfl⟩, ⟨Nat.le_of_ble_eq_true rfl, Nat.le_of_ble_eq_true rfl⟩, Nat.zero_le _, Nat.zero_le _⟩ (JN.whole rfl) 0 rfl ⟨rfl, rfl⟩ rfl rfl (Nat.le_of_ble_eq_true rfl) (fun H locs hP hD hS => ?_)
    replace hP : va_P D vwCl (cM a cI ss mm im wa hi le ro re lm rm pl nu gi bg bm sd) H := hP
    replace hD : va_D A (cM a cI ss mm im wa hi le ro re lm rm pl nu gi bg bm sd) := hD
    refine lv_if_eq (tgt := 153) hx hb dX4_isDone_139 (by decide) (fun c139 => ?_) (fun c139 => ?_)
    · replace h := fx_ite_t c139 h
      refine lv_iconst (v := 0) hx hb dX4_isDone_153 (by decide) ?_
      obtain ⟨rfl, rfl⟩ := rtv2 h
      exact rI hQ hx hb hr hlocks hAe hP hS rfl rfl dX4_isDone_154
    · replace h := fx_ite_f c139 h
      refine lv_aload_n hx hb dX4_isDone_142 rfl (lv_at hl 2 rfl) ?_
      refine va_get (D := D) (ci := 4) (v := .ref (a 1)) (C := RX4) (T := TX4) (N := 16) hx hb hts i4 hown hK hP 0 rfl rfl 0 (by decide) f9 (fun _ h9 => h9) rfl dX4_isDone_143 ?_
      refine lv_iload_n hx hb dX4_isDone_146 rfl (lv_at hl 1 rfl) ?_
      obtain ⟨r147, q147, h⟩ := bnd1_inv h
      refine kSI (n := 2) (As := [.ref (a 1), .int (nu 0)]) (rest := []) CF hl hK hP hD hS hA (c_X4_isWhole l D cI (a 1) ss (nu 0) r147 q147) gX4_isDone_X4_isWhole rfl dX4_isDone_147 (by decide +kernel) ⟨⟨rfl, rfl⟩, ⟨Nat.le_of_ble_eq_true rfl, Nat.le_of_ble_eq_true rfl⟩, Nat.zero_le _, Nat.zero_le _⟩ (JN.ro [1] rfl rfl) rfl rfl (Nat.le_of_ble_eq_true rfl) (fun H locs hP hD hS => ?_)
      refine lv_if_ne (tgt := 155) hx hb dX4_isDone_150 (by decide) (fun c150 => ?_) (fun c150 => ?_)
      · replace h := fx_ite_f c150 h
        refine lv_aload_n hx hb dX4_isDone_155 rfl (lv_at hl 2 rfl) ?_
        refine va_get (D := D) (ci := 4) (v := .ref (a 1)) (C := RX4) (T := TX4) (N := 16) hx hb hts i4 hown hK hP 0 rfl rfl 0 (by decide) f9 (fun _ h9 => h9) rfl dX4_isDone_156 ?_
        refine lv_iload_n hx hb dX4_isDone_159 rfl (lv_at hl 1 rfl) ?_
        obtain ⟨r160, q160, h⟩ := bnd1_inv h
        refine kSI (n := 1) (As := [.int (nu 0)]) (rest := [.ref (a 1)]) CF hl hK hP hD hS hA (c_X4_ofT l D cI   (nu 0) r160 q160) gX4_isDone_X4_ofT rfl dX4_isDone_160 (by decide +kernel) ⟨⟨rfl, rfl⟩, ⟨Nat.le_of_ble_eq_true rfl, Nat.le_of_ble_eq_true rfl⟩, Nat.zero_le _, Nat.zero_le _⟩ (JN.ro [] rfl rfl) rfl rfl (Nat.le_of_ble_eq_true rfl) (fun H locs hP hD hS => ?_)
        refine lv_iconst (v := 4) hx hb dX4_isDone_163 (by decide) ?_
        refine lv_iadd hx hb dX4_isDone_164 ?_
        refine lv_bipush (v := (-8)) hx hb dX4_isDone_165 (by decide) ?_
        obtain ⟨g167, h⟩ := chk_inv h
        refine va_iast (n := 61) (f := ss) hx hb hK hP hD hS 1 0 rfl rfl g167 dX4_isDone_167 (fun H locs hP hD hS => ?_)
        replace hP : va_P D vwCl (cM a cI (upd ss (Int32.toNatClampNeg (r160 + (4 : Int32))) (-8 : Int32)) mm im wa hi le ro re lm rm pl nu gi bg bm sd) H := hP
        replace hD : va_D A (cM a cI (upd ss (Int32.toNatClampNeg (r160 + (4 : Int32))) (-8 : Int32)) mm im wa hi le ro re lm rm pl nu gi bg bm sd) := hD
        refine lv_iconst (v := 1) hx hb dX4_isDone_168 (by decide) ?_
        obtain ⟨rfl, rfl⟩ := rtv2 h
        exact rI hQ hx hb hr hlocks hAe hP hS rfl rfl dX4_isDone_169
      · replace h := fx_ite_t c150 h
        refine lv_iconst (v := 0) hx hb dX4_isDone_153 (by decide) ?_
        obtain ⟨rfl, rfl⟩ := rtv2 h
        exact rI hQ hx hb hr hlocks hAe hP hS rfl rfl dX4_isDone_154
  replace h := fx_ite_f s15_110 h
  by_cases s15_112 : p1 = 112
  · replace h := fx_ite_t s15_112 h
    refine lv_lookup (tgt := 72) hx hb dX4_isDone_15 (by decide) (off := 57) (by rw [s15_112]; rfl) (by decide) ?_
    refine lv_aload_n hx hb dX4_isDone_72 rfl (lv_at hl 2 rfl) ?_
    refine lv_iload_n hx hb dX4_isDone_73 rfl (lv_at hl 1 rfl) ?_
    obtain ⟨r74, u74_ss, q74, h⟩ := bnd2_inv h
    refine kVI (n := 1) (As := [.int (nu 0)]) (rest := []) CF hl hK hP hD hS hA (c_X4_addsPerson l D cI a ss mm im wa hi le ro re lm rm pl nu gi bg bm sd (nu 0) r74 u74_ss q74) gX4_isDone_X4_addsPerson rfl dX4_isDone_74 (by decide +kernel) ⟨⟨rfl, rfl⟩, ⟨Nat.le_of_ble_eq_true rfl, Nat.le_of_ble_eq_true rfl⟩, Nat.zero_le _, Nat.zero_le _⟩ (JN.whole (w1 := (cM a cI u74_ss mm im wa hi le ro re lm rm pl nu gi bg bm sd)) rfl) 0 rfl ⟨rfl, rfl⟩ rfl rfl (Nat.le_of_ble_eq_true rfl) (fun H locs hP hD hS => ?_)
    replace hP : va_P D vwCl (cM a cI u74_ss mm im wa hi le ro re lm rm pl nu gi bg bm sd) H := hP
    replace hD : va_D A (cM a cI u74_ss mm im wa hi le ro re lm rm pl nu gi bg bm sd) := hD
    obtain ⟨z77, h⟩ := zch_inv h
    obtain ⟨rfl, rfl⟩ := rtv2 h
    exact rI hQ hx hb hr hlocks hAe hP hS (fx_zn z77) rfl dX4_isDone_77
  replace h := fx_ite_f s15_112 h
  by_cases s15_115 : p1 = 115
  · replace h := fx_ite_t s15_115 h
    refine lv_lookup (tgt := 170) hx hb dX4_isDone_15 (by decide) (off := 155) (by rw [s15_115]; rfl) (by decide) ?_
    refine lv_aload_n hx hb dX4_isDone_170 rfl (lv_at hl 2 rfl) ?_
    refine lv_iload_n hx hb dX4_isDone_171 rfl (lv_at hl 1 rfl) ?_
    obtain ⟨r172, q172, h⟩ := bnd1_inv h
    refine kVI (n := 1) (As := [.int (nu 0)]) (rest := []) CF hl hK hP hD hS hA (c_X4_isPerson l D cI a ss mm im wa hi le ro re lm rm pl nu gi bg bm sd (nu 0) r172 q172) gX4_isDone_X4_isPerson rfl dX4_isDone_172 (by decide +kernel) ⟨⟨rfl, rfl⟩, ⟨Nat.le_of_ble_eq_true rfl, Nat.le_of_ble_eq_true rfl⟩, Nat.zero_le _, Nat.zero_le _⟩ (JN.whole rfl) 0 rfl ⟨rfl, rfl⟩ rfl rfl (Nat.le_of_ble_eq_true rfl) (fun H locs hP hD hS => ?_)
    replace hP : va_P D vwCl (cM a cI ss mm im wa hi le ro re lm rm pl nu gi bg bm sd) H := hP
    replace hD : va_D A (cM a cI ss mm im wa hi le ro re lm rm pl nu gi bg bm sd) := hD
    refine lv_if_eq (tgt := 202) hx hb dX4_isDone_175 (by decide) (fun c175 => ?_) (fun c175 => ?_)
    · replace h := fx_ite_t c175 h
      refine lv_iconst (v := 0) hx hb dX4_isDone_202 (by decide) ?_
      obtain ⟨rfl, rfl⟩ := rtv2 h
      exact rI hQ hx hb hr hlocks hAe hP hS rfl rfl dX4_isDone_203
    · replace h := fx_ite_f c175 h
      refine lv_aload_n hx hb dX4_isDone_178 rfl (lv_at hl 2 rfl) ?_
      refine lv_iload_n hx hb dX4_isDone_179 rfl (lv_at hl 0 rfl) ?_
      obtain ⟨r180, q180, h⟩ := bnd1_inv h
      refine kVI (n := 1) (As := [.int (nu 1)]) (rest := []) CF hl hK hP hD hS hA (c_X4_isThing l D cI a ss mm im wa hi le ro re lm rm pl nu gi bg bm sd (nu 1) r180 q180) gX4_isDone_X4_isThing rfl dX4_isDone_180 (by decide +kernel) ⟨⟨rfl, rfl⟩, ⟨Nat.le_of_ble_eq_true rfl, Nat.le_of_ble_eq_true rfl⟩, Nat.zero_le _, Nat.zero_le _⟩ (JN.whole rfl) 0 rfl ⟨rfl, rfl⟩ rfl rfl (Nat.le_of_ble_eq_true rfl) (fun H locs hP hD hS => ?_)
      replace hP : va_P D vwCl (cM a cI ss mm im wa hi le ro re lm rm pl nu gi bg bm sd) H := hP
      replace hD : va_D A (cM a cI ss mm im wa hi le ro re lm rm pl nu gi bg bm sd) := hD
      refine lv_if_eq (tgt := 202) hx hb dX4_isDone_183 (by decide) (fun c183 => ?_) (fun c183 => ?_)
      · replace h := fx_ite_t c183 h
        refine lv_iconst (v := 0) hx hb dX4_isDone_202 (by decide) ?_
        obtain ⟨rfl, rfl⟩ := rtv2 h
        exact rI hQ hx hb hr hlocks hAe hP hS rfl rfl dX4_isDone_203
      · replace h := fx_ite_f c183 h
        refine lv_aload_n hx hb dX4_isDone_186 rfl (lv_at hl 2 rfl) ?_
        refine va_get (D := D) (ci := 4) (v := .ref (a 1)) (C := RX4) (T := TX4) (N := 16) hx hb hts i4 hown hK hP 0 rfl rfl 0 (by decide) f9 (fun _ h9 => h9) rfl dX4_isDone_187 ?_
        refine lv_iload_n hx hb dX4_isDone_190 rfl (lv_at hl 0 rfl) ?_
        obtain ⟨r191, q191, h⟩ := bnd1_inv h
        refine kSI (n := 1) (As := [.int (nu 1)]) (rest := [.ref (a 1)]) CF hl hK hP hD hS hA (c_X4_ofT l D cI   (nu 1) r191 q191) gX4_isDone_X4_ofT rfl dX4_isDone_191 (by decide +kernel) ⟨⟨rfl, rfl⟩, ⟨Nat.le_of_ble_eq_true rfl, Nat.le_of_ble_eq_true rfl⟩, Nat.zero_le _, Nat.zero_le _⟩ (JN.ro [] rfl rfl) rfl rfl (Nat.le_of_ble_eq_true rfl) (fun H locs hP hD hS => ?_)
        refine lv_iconst (v := 4) hx hb dX4_isDone_194 (by decide) ?_
        refine lv_iadd hx hb dX4_isDone_195 ?_
        obtain ⟨g196, h⟩ := chk_inv h
        refine va_iald (n := 61) (f := ss) hx hb hK hP 1 0 rfl rfl g196 dX4_isDone_196 ?_
        refine lv_bipush (v := (-8)) hx hb dX4_isDone_197 (by decide) ?_
        refine lv_icmp_eq (tgt := 204) hx hb dX4_isDone_199 (by decide) (fun c199 => ?_) (fun c199 => ?_)
        · replace h := fx_ite_t c199 h
          refine lv_aload_n hx hb dX4_isDone_204 rfl (lv_at hl 2 rfl) ?_
          refine va_get (D := D) (ci := 4) (v := .ref (a 1)) (C := RX4) (T := TX4) (N := 16) hx hb hts i4 hown hK hP 0 rfl rfl 0 (by decide) f9 (fun _ h9 => h9) rfl dX4_isDone_205 ?_
          refine lv_iload_n hx hb dX4_isDone_208 rfl (lv_at hl 0 rfl) ?_
          obtain ⟨r209, q209, h⟩ := bnd1_inv h
          refine kSI (n := 1) (As := [.int (nu 1)]) (rest := [.ref (a 1)]) CF hl hK hP hD hS hA (c_X4_ofT l D cI   (nu 1) r209 q209) gX4_isDone_X4_ofT rfl dX4_isDone_209 (by decide +kernel) ⟨⟨rfl, rfl⟩, ⟨Nat.le_of_ble_eq_true rfl, Nat.le_of_ble_eq_true rfl⟩, Nat.zero_le _, Nat.zero_le _⟩ (JN.ro [] rfl rfl) rfl rfl (Nat.le_of_ble_eq_true rfl) (fun H locs hP hD hS => ?_)
          refine lv_iconst (v := 4) hx hb dX4_isDone_212 (by decide) ?_
          refine lv_iadd hx hb dX4_isDone_213 ?_
          refine lv_iload_n hx hb dX4_isDone_214 rfl (lv_at hl 1 rfl) ?_
          obtain ⟨g215, h⟩ := chk_inv h
          refine va_iast (n := 61) (f := ss) hx hb hK hP hD hS 1 0 rfl rfl g215 dX4_isDone_215 (fun H locs hP hD hS => ?_)
          replace hP : va_P D vwCl (cM a cI (upd ss (Int32.toNatClampNeg (r209 + (4 : Int32))) (nu 0)) mm im wa hi le ro re lm rm pl nu gi bg bm sd) H := hP
          replace hD : va_D A (cM a cI (upd ss (Int32.toNatClampNeg (r209 + (4 : Int32))) (nu 0)) mm im wa hi le ro re lm rm pl nu gi bg bm sd) := hD
          refine lv_iconst (v := 1) hx hb dX4_isDone_216 (by decide) ?_
          obtain ⟨rfl, rfl⟩ := rtv2 h
          exact rI hQ hx hb hr hlocks hAe hP hS rfl rfl dX4_isDone_217
        · replace h := fx_ite_f c199 h
          refine lv_iconst (v := 0) hx hb dX4_isDone_202 (by decide) ?_
          obtain ⟨rfl, rfl⟩ := rtv2 h
          exact rI hQ hx hb hr hlocks hAe hP hS rfl rfl dX4_isDone_203
  replace h := fx_ite_f s15_115 h
  by_cases s15_116 : p1 = 116
  · replace h := fx_ite_t s15_116 h
    refine lv_lookup (tgt := 78) hx hb dX4_isDone_15 (by decide) (off := 63) (by rw [s15_116]; rfl) (by decide) ?_
    refine lv_aload_n hx hb dX4_isDone_78 rfl (lv_at hl 2 rfl) ?_
    refine lv_iload_n hx hb dX4_isDone_79 rfl (lv_at hl 1 rfl) ?_
    refine lv_iload_n hx hb dX4_isDone_80 rfl (lv_at hl 0 rfl) ?_
    refine lv_aload_n hx hb dX4_isDone_81 rfl (lv_at hl 2 rfl) ?_
    refine va_get (D := D) (ci := 4) (v := .ref (a 8)) (C := RX4) (T := TX4) (N := 16) hx hb hts i4 hown hK hP 0 rfl rfl 11 (by decide) f31 (fun _ h9 => h9) rfl dX4_isDone_82 ?_
    refine lv_iconst (v := 2) hx hb dX4_isDone_85 (by decide) ?_
    refine ald (n := 3) (f := nu) (k := 2) hx hb hK hP 8 0 rfl rfl (fx_lit rfl) rfl dX4_isDone_86 ?_
    obtain ⟨r87, u87_ss, q87, h⟩ := bnd2_inv h
    refine kVI (n := 3) (As := [.int (nu 0), .int (nu 1), .int (nu 2)]) (rest := []) CF hl hK hP hD hS hA (c_X4_addsThing l D cI a ss mm im wa hi le ro re lm rm pl nu gi bg bm sd (nu 0) (nu 1) (nu 2) r87 u87_ss q87) gX4_isDone_X4_addsThing rfl dX4_isDone_87 (by decide +kernel) ⟨⟨rfl, rfl⟩, ⟨Nat.le_of_ble_eq_true rfl, Nat.le_of_ble_eq_true rfl⟩, Nat.zero_le _, Nat.zero_le _⟩ (JN.whole (w1 := (cM a cI u87_ss mm im wa hi le ro re lm rm pl nu gi bg bm sd)) rfl) 0 rfl ⟨rfl, rfl⟩ rfl rfl (Nat.le_of_ble_eq_true rfl) (fun H locs hP hD hS => ?_)
    replace hP : va_P D vwCl (cM a cI u87_ss mm im wa hi le ro re lm rm pl nu gi bg bm sd) H := hP
    replace hD : va_D A (cM a cI u87_ss mm im wa hi le ro re lm rm pl nu gi bg bm sd) := hD
    obtain ⟨z90, h⟩ := zch_inv h
    obtain ⟨rfl, rfl⟩ := rtv2 h
    exact rI hQ hx hb hr hlocks hAe hP hS (fx_zn z90) rfl dX4_isDone_90
  replace h := fx_ite_f s15_116 h
  by_cases s15_119 : p1 = 119
  · replace h := fx_ite_t s15_119 h
    refine lv_lookup (tgt := 218) hx hb dX4_isDone_15 (by decide) (off := 203) (by rw [s15_119]; rfl) (by decide) ?_
    refine lv_aload_n hx hb dX4_isDone_218 rfl (lv_at hl 2 rfl) ?_
    refine lv_iload_n hx hb dX4_isDone_219 rfl (lv_at hl 1 rfl) ?_
    obtain ⟨r220, q220, h⟩ := bnd1_inv h
    refine kVI (n := 1) (As := [.int (nu 0)]) (rest := []) CF hl hK hP hD hS hA (c_X4_isThing l D cI a ss mm im wa hi le ro re lm rm pl nu gi bg bm sd (nu 0) r220 q220) gX4_isDone_X4_isThing rfl dX4_isDone_220 (by decide +kernel) ⟨⟨rfl, rfl⟩, ⟨Nat.le_of_ble_eq_true rfl, Nat.le_of_ble_eq_true rfl⟩, Nat.zero_le _, Nat.zero_le _⟩ (JN.whole rfl) 0 rfl ⟨rfl, rfl⟩ rfl rfl (Nat.le_of_ble_eq_true rfl) (fun H locs hP hD hS => ?_)
    replace hP : va_P D vwCl (cM a cI ss mm im wa hi le ro re lm rm pl nu gi bg bm sd) H := hP
    replace hD : va_D A (cM a cI ss mm im wa hi le ro re lm rm pl nu gi bg bm sd) := hD
    refine lv_if_ne (tgt := 228) hx hb dX4_isDone_223 (by decide) (fun c223 => ?_) (fun c223 => ?_)
    · replace h := fx_ite_f c223 h
      refine lv_aload_n hx hb dX4_isDone_228 rfl (lv_at hl 2 rfl) ?_
      refine va_get (D := D) (ci := 4) (v := .ref (a 1)) (C := RX4) (T := TX4) (N := 16) hx hb hts i4 hown hK hP 0 rfl rfl 0 (by decide) f9 (fun _ h9 => h9) rfl dX4_isDone_229 ?_
      refine lv_iload_n hx hb dX4_isDone_232 rfl (lv_at hl 1 rfl) ?_
      obtain ⟨r233, q233, h⟩ := bnd1_inv h
      refine kSI (n := 1) (As := [.int (nu 0)]) (rest := [.ref (a 1)]) CF hl hK hP hD hS hA (c_X4_ofT l D cI   (nu 0) r233 q233) gX4_isDone_X4_ofT rfl dX4_isDone_233 (by decide +kernel) ⟨⟨rfl, rfl⟩, ⟨Nat.le_of_ble_eq_true rfl, Nat.le_of_ble_eq_true rfl⟩, Nat.zero_le _, Nat.zero_le _⟩ (JN.ro [] rfl rfl) rfl rfl (Nat.le_of_ble_eq_true rfl) (fun H locs hP hD hS => ?_)
      refine lv_iconst (v := 3) hx hb dX4_isDone_236 (by decide) ?_
      refine lv_iadd hx hb dX4_isDone_237 ?_
      refine lv_iload_n hx hb dX4_isDone_238 rfl (lv_at hl 0 rfl) ?_
      obtain ⟨g239, h⟩ := chk_inv h
      refine va_iast (n := 61) (f := ss) hx hb hK hP hD hS 1 0 rfl rfl g239 dX4_isDone_239 (fun H locs hP hD hS => ?_)
      replace hP : va_P D vwCl (cM a cI (upd ss (Int32.toNatClampNeg (r233 + (3 : Int32))) (nu 1)) mm im wa hi le ro re lm rm pl nu gi bg bm sd) H := hP
      replace hD : va_D A (cM a cI (upd ss (Int32.toNatClampNeg (r233 + (3 : Int32))) (nu 1)) mm im wa hi le ro re lm rm pl nu gi bg bm sd) := hD
      refine lv_iconst (v := 1) hx hb dX4_isDone_240 (by decide) ?_
      obtain ⟨rfl, rfl⟩ := rtv2 h
      exact rI hQ hx hb hr hlocks hAe hP hS rfl rfl dX4_isDone_241
    · replace h := fx_ite_t c223 h
      refine lv_iconst (v := 0) hx hb dX4_isDone_226 (by decide) ?_
      obtain ⟨rfl, rfl⟩ := rtv2 h
      exact rI hQ hx hb hr hlocks hAe hP hS rfl rfl dX4_isDone_227
  replace h := fx_ite_f s15_119 h
  refine lv_lookup (tgt := 242) hx hb dX4_isDone_15 (by decide) (off := 227) (by have a_s15_98 : Int32.toInt p1 ≠ 98 := fx_toInt_ne s15_98; have a_s15_110 : Int32.toInt p1 ≠ 110 := fx_toInt_ne s15_110; have a_s15_112 : Int32.toInt p1 ≠ 112 := fx_toInt_ne s15_112; have a_s15_115 : Int32.toInt p1 ≠ 115 := fx_toInt_ne s15_115; have a_s15_116 : Int32.toInt p1 ≠ 116 := fx_toInt_ne s15_116; have a_s15_119 : Int32.toInt p1 ≠ 119 := fx_toInt_ne s15_119; show Op.lookupswitch.offset [(98, 76), (110, 119), (112, 57), (115, 155), (116, 63), (119, 203)] 227 (Int32.toInt p1) = 227; simp only [Op.lookupswitch.offset]; rw [if_neg (Ne.symm a_s15_98), if_neg (Ne.symm a_s15_110), if_neg (Ne.symm a_s15_112), if_neg (Ne.symm a_s15_115), if_neg (Ne.symm a_s15_116), if_neg (Ne.symm a_s15_119)]) (by decide) ?_
  refine lv_iload_n hx hb dX4_isDone_242 rfl (lv_at hl 1 rfl) ?_
  refine lv_iconst (v := 1) hx hb dX4_isDone_243 (by decide) ?_
  refine lv_bipush (v := 60) hx hb dX4_isDone_244 (by decide) ?_
  obtain ⟨r246, q246, h⟩ := bnd1_inv h
  refine kSI (n := 3) (As := [.int (nu 0), .int (1 : Int32), .int (60 : Int32)]) (rest := []) CF hl hK hP hD hS hA (c_X4_isIn l D cI   (nu 0) (1 : Int32) (60 : Int32) r246 q246) gX4_isDone_X4_isIn rfl dX4_isDone_246 (by decide +kernel) ⟨⟨rfl, rfl⟩, ⟨Nat.le_of_ble_eq_true rfl, Nat.le_of_ble_eq_true rfl⟩, Nat.zero_le _, Nat.zero_le _⟩ (JN.ro [] rfl rfl) rfl rfl (Nat.le_of_ble_eq_true rfl) (fun H locs hP hD hS => ?_)
  refine lv_if_eq (tgt := 266) hx hb dX4_isDone_249 (by decide) (fun c249 => ?_) (fun c249 => ?_)
  · replace h := fx_ite_t c249 h
    refine lv_iconst (v := 0) hx hb dX4_isDone_266 (by decide) ?_
    obtain ⟨rfl, rfl⟩ := rtv2 h
    exact rI hQ hx hb hr hlocks hAe hP hS rfl rfl dX4_isDone_267
  · replace h := fx_ite_f c249 h
    refine lv_aload_n hx hb dX4_isDone_252 rfl (lv_at hl 2 rfl) ?_
    refine va_get (D := D) (ci := 4) (v := .ref (a 1)) (C := RX4) (T := TX4) (N := 16) hx hb hts i4 hown hK hP 0 rfl rfl 0 (by decide) f9 (fun _ h9 => h9) rfl dX4_isDone_253 ?_
    refine lv_iconst (v := 2) hx hb dX4_isDone_256 (by decide) ?_
    refine ald (n := 61) (f := ss) (k := 2) hx hb hK hP 1 0 rfl rfl (fx_lit rfl) rfl dX4_isDone_257 ?_
    refine lv_iload_n hx hb dX4_isDone_258 rfl (lv_at hl 1 rfl) ?_
    refine lv_iadd hx hb dX4_isDone_259 ?_
    refine lv_sipush (v := 999) hx hb dX4_isDone_260 (by decide) ?_
    refine lv_icmp_le (tgt := 268) hx hb dX4_isDone_263 (by decide) (fun c263 => ?_) (fun c263 => ?_)
    · replace h := fx_ite_t c263 h
      refine lv_aload_n hx hb dX4_isDone_268 rfl (lv_at hl 2 rfl) ?_
      refine va_get (D := D) (ci := 4) (v := .ref (a 1)) (C := RX4) (T := TX4) (N := 16) hx hb hts i4 hown hK hP 0 rfl rfl 0 (by decide) f9 (fun _ h9 => h9) rfl dX4_isDone_269 ?_
      refine lv_iload_n hx hb dX4_isDone_272 rfl (lv_at hl 1 rfl) ?_
      obtain ⟨u273_ss, q273, h⟩ := bnd1_inv h
      refine kSV (n := 2) (As := [.ref (a 1), .int (nu 0)]) (rest := []) CF hl hK hP hD hS hA (c_X4_daysOn l D cI (a 1) ss (nu 0) u273_ss q273) gX4_isDone_X4_daysOn rfl dX4_isDone_273 (by decide +kernel) ⟨⟨rfl, rfl⟩, ⟨Nat.le_of_ble_eq_true rfl, Nat.le_of_ble_eq_true rfl⟩, Nat.zero_le _, Nat.zero_le _⟩ (JN.sub (wst' := (cM a cI u273_ss mm im wa hi le ro re lm rm pl nu gi bg bm sd)) [1] rfl rfl rfl rfl) rfl rfl (Nat.le_of_ble_eq_true rfl) (fun H locs hP hD hS => ?_)
      replace hP : va_P D vwCl (cM a cI u273_ss mm im wa hi le ro re lm rm pl nu gi bg bm sd) H := hP
      replace hD : va_D A (cM a cI u273_ss mm im wa hi le ro re lm rm pl nu gi bg bm sd) := hD
      refine lv_iconst (v := 1) hx hb dX4_isDone_276 (by decide) ?_
      obtain ⟨rfl, rfl⟩ := rtv2 h
      exact rI hQ hx hb hr hlocks hAe hP hS rfl rfl dX4_isDone_277
    · replace h := fx_ite_f c263 h
      refine lv_iconst (v := 0) hx hb dX4_isDone_266 (by decide) ?_
      obtain ⟨rfl, rfl⟩ := rtv2 h
      exact rI hQ hx hb hr hlocks hAe hP hS rfl rfl dX4_isDone_267
/-! X4_lane -/
set_option maxHeartbeats 4000000 in
set_option maxRecDepth 100000 in
theorem c_X4_lane (l : Launch) (D : va_G) (cI : ClassId) (a : Nat → Nat) (ss : (Nat → Int32)) (mm : (Nat → Int32)) (im : (Nat → Int32)) (wa : (Nat → Int32)) (hi : Int32) (le : (Nat → Int32)) (ro : (Nat → Int32)) (re : (Nat → Int32)) (lm : Int32) (rm : Int32) (pl : Int32) (nu : (Nat → Int32)) (gi : (Nat → Int32)) (bg : (Nat → Int32)) (bm : Int32) (sd : Int32)  (res : Int32) (u_ss : (Nat → Int32)) (u_wa : (Nat → Int32)) (u_lm : Int32) (u_pl : Int32) (u_nu : (Nat → Int32)) (h : M_X4_lane ss wa le lm pl nu = some (res, u_ss, u_wa, u_lm, u_pl, u_nu)) : mI l yX4_lane wsX4_lane { frames := 8, cells := 0, slots := 0, locals := 177 } D cI [.ref (a 0)] (cM a cI ss mm im wa hi le ro re lm rm pl nu gi bg bm sd) (cM a cI u_ss mm im u_wa hi le ro re u_lm rm u_pl u_nu gi bg bm sd) res := by
  intro sz
  refine mStart (cc := cX4_lane) (maxL := 6) (ret := (some .int)) (own := RX4) (by decide) rfl rfl (Nat.le_of_ble_eq_true rfl) (lv := [(0, .ref (a 0))]) rfl ?_
  intro p e s m args below meth c A ls Q H locs CF hr hlocks hK hP hD hS hA hAe hl hQ
  obtain ⟨hx, hb, hml, hown, hts⟩ := id CF
  have f9 := hts (.fieldLink RX4 9 "MendAnothersBreakingModel" "s" "[I") (List.mem_of_getElem? (i := 3) rfl)
  have f19 := hts (.fieldLink RX4 19 "MendAnothersBreakingModel" "was" "[I") (List.mem_of_getElem? (i := 4) rfl)
  have f101 := hts (.fieldLink RX4 101 "MendAnothersBreakingModel" "letterMany" "I") (List.mem_of_getElem? (i := 2) rfl)
  have f105 := hts (.fieldLink RX4 105 "MendAnothersBreakingModel" "place" "I") (List.mem_of_getElem? (i := 1) rfl)
  have i4 : ∀ w ∈ wsX40, w ∈ wsX4_lane := fun w h => List.mem_cons_of_mem _ (List.mem_append_right _ h)
  have L62 : ∀ (n : Nat) (x1 : Int32) (wa : (Nat → Int32)) (lm : Int32) (x2 : Int32) (ss : (Nat → Int32)) (pl : Int32) (nu : (Nat → Int32)), fuel (fun _ _ _ _ => none) (B_X4_lane_62 x1 wa le lm) n x2 ss pl nu = some (res, u_ss, u_wa, u_lm, u_pl, u_nu) → 
      ∀ (H : Heap) (locs : List Loc) (ls : Array Slot), va_P D vwCl (cM a cI ss mm im wa hi le ro re lm rm pl nu gi bg bm sd) H → va_D A (cM a cI ss mm im wa hi le ro re lm rm pl nu gi bg bm sd) → va_S A s.heap H locs → lv_has ls 6 [(0, .ref (a 0)), (1, .int x1), (2, .int x2)] → W p l e { frames := 8, cells := 0, slots := 0, locals := 177 } s m args below meth c H locs 0 0 Q (F0 m 62 ls []) := by
    intro n
    induction n with
    | zero =>
      intro x1 wa lm x2 ss pl nu h
      exact nomatch (show (none : Option (Int32 × (Nat → Int32) × (Nat → Int32) × Int32 × Int32 × (Nat → Int32))) = some (res, u_ss, u_wa, u_lm, u_pl, u_nu) from h)
    | succ n ih =>
      intro x1 wa lm x2 ss pl nu h  H locs ls hP hD hS hl
      replace h : B_X4_lane_62 x1 wa le lm (fuel (fun _ _ _ _ => none) (B_X4_lane_62 x1 wa le lm) n) x2 ss pl nu = some (res, u_ss, u_wa, u_lm, u_pl, u_nu) := h
      unfold B_X4_lane_62 at h
      refine lv_iload_n hx hb dX4_lane_62 rfl (lv_at hl 2 rfl) ?_
      refine lv_bipush (v := (-9)) hx hb dX4_lane_63 (by decide) ?_
      refine lv_icmp_ne (tgt := 128) hx hb dX4_lane_65 (by decide) (fun c65 => ?_) (fun c65 => ?_)
      · replace h := fx_ite_f c65 h
        refine lv_aload_n hx hb dX4_lane_128 rfl (lv_at hl 0 rfl) ?_
        refine lv_iconst (v := 0) hx hb dX4_lane_129 (by decide) ?_
        refine va_put (D := D) (ci := 4) (v := .int (0 : Int32)) (ty := .int) (C := RX4) (T := TX4) (N := 16) hx hb hts i4 tyX4 tyX4_ok nmX4 hown hK hP hD hS 0 rfl rfl 8 (by decide) f101 (fun _ h9 => h9) rfl (by decide +kernel) rfl rfl (Nat.le_of_ble_eq_true rfl) dX4_lane_130 (fun H locs hP hD hS => ?_)
        replace hP : va_P D vwCl (cM a cI ss mm im wa hi le ro re (0 : Int32) rm pl nu gi bg bm sd) H := hP
        replace hD : va_D A (cM a cI ss mm im wa hi le ro re (0 : Int32) rm pl nu gi bg bm sd) := hD
        refine lv_iload_n hx hb dX4_lane_133 rfl (lv_at hl 2 rfl) ?_
        refine lv_bipush (v := (-9)) hx hb dX4_lane_134 (by decide) ?_
        refine lv_icmp_ne (tgt := 143) hx hb dX4_lane_136 (by decide) (fun c136 => ?_) (fun c136 => ?_)
        · replace h := fx_ite_f c136 h
          refine lv_iload_n hx hb dX4_lane_143 rfl (lv_at hl 2 rfl) ?_
          obtain ⟨rfl, rfl, rfl, rfl, rfl, rfl⟩ := rtv6 h
          exact rI hQ hx hb hr hlocks hAe hP hS rfl rfl dX4_lane_144
        · replace h := fx_ite_t c136 h
          refine lv_iload_n hx hb dX4_lane_139 rfl (lv_at hl 1 rfl) ?_
          refine lv_goto (tgt := 144) hx hb dX4_lane_140 (by decide) ?_
          obtain ⟨rfl, rfl, rfl, rfl, rfl, rfl⟩ := rtv6 h
          exact rI hQ hx hb hr hlocks hAe hP hS rfl rfl dX4_lane_144
      · replace h := fx_ite_t c65 h
        refine lv_aload_n hx hb dX4_lane_68 rfl (lv_at hl 0 rfl) ?_
        refine va_get (D := D) (ci := 4) (v := .int pl) (C := RX4) (T := TX4) (N := 16) hx hb hts i4 hown hK hP 0 rfl rfl 10 (by decide) f105 (fun _ h9 => h9) rfl dX4_lane_69 ?_
        refine lv_aload_n hx hb dX4_lane_72 rfl (lv_at hl 0 rfl) ?_
        refine va_get (D := D) (ci := 4) (v := .int lm) (C := RX4) (T := TX4) (N := 16) hx hb hts i4 hown hK hP 0 rfl rfl 8 (by decide) f101 (fun _ h9 => h9) rfl dX4_lane_73 ?_
        refine lv_icmp_ge (tgt := 128) hx hb dX4_lane_76 (by decide) (fun c76 => ?_) (fun c76 => ?_)
        · replace h := fx_ite_t c76 h
          refine lv_aload_n hx hb dX4_lane_128 rfl (lv_at hl 0 rfl) ?_
          refine lv_iconst (v := 0) hx hb dX4_lane_129 (by decide) ?_
          refine va_put (D := D) (ci := 4) (v := .int (0 : Int32)) (ty := .int) (C := RX4) (T := TX4) (N := 16) hx hb hts i4 tyX4 tyX4_ok nmX4 hown hK hP hD hS 0 rfl rfl 8 (by decide) f101 (fun _ h9 => h9) rfl (by decide +kernel) rfl rfl (Nat.le_of_ble_eq_true rfl) dX4_lane_130 (fun H locs hP hD hS => ?_)
          replace hP : va_P D vwCl (cM a cI ss mm im wa hi le ro re (0 : Int32) rm pl nu gi bg bm sd) H := hP
          replace hD : va_D A (cM a cI ss mm im wa hi le ro re (0 : Int32) rm pl nu gi bg bm sd) := hD
          refine lv_iload_n hx hb dX4_lane_133 rfl (lv_at hl 2 rfl) ?_
          refine lv_bipush (v := (-9)) hx hb dX4_lane_134 (by decide) ?_
          refine lv_icmp_ne (tgt := 143) hx hb dX4_lane_136 (by decide) (fun c136 => ?_) (fun c136 => ?_)
          · replace h := fx_ite_f c136 h
            refine lv_iload_n hx hb dX4_lane_143 rfl (lv_at hl 2 rfl) ?_
            obtain ⟨rfl, rfl, rfl, rfl, rfl, rfl⟩ := rtv6 h
            exact rI hQ hx hb hr hlocks hAe hP hS rfl rfl dX4_lane_144
          · replace h := fx_ite_t c136 h
            refine lv_iload_n hx hb dX4_lane_139 rfl (lv_at hl 1 rfl) ?_
            refine lv_goto (tgt := 144) hx hb dX4_lane_140 (by decide) ?_
            obtain ⟨rfl, rfl, rfl, rfl, rfl, rfl⟩ := rtv6 h
            exact rI hQ hx hb hr hlocks hAe hP hS rfl rfl dX4_lane_144
        · replace h := fx_ite_f c76 h
          refine lv_aload_n hx hb dX4_lane_79 rfl (lv_at hl 0 rfl) ?_
          refine va_get (D := D) (ci := 4) (v := .int pl) (C := RX4) (T := TX4) (N := 16) hx hb hts i4 hown hK hP 0 rfl rfl 10 (by decide) f105 (fun _ h9 => h9) rfl dX4_lane_80 ?_
          refine lv_istore_n (lv' := [(3, .int pl), (0, .ref (a 0)), (1, .int x1), (2, .int x2)]) hx hb dX4_lane_83 rfl hl (by decide) rfl (fun ls hl => ?_)
          refine lv_aload_n hx hb dX4_lane_84 rfl (lv_at hl 1 rfl) ?_
          obtain ⟨r85, q85, h⟩ := bnd1_inv h
          refine kVI (n := 0) (As := []) (rest := []) CF hl hK hP hD hS hA (c_X4_here l D cI a ss mm im wa hi le ro re lm rm pl nu gi bg bm sd  r85 q85) gX4_lane_X4_here rfl dX4_lane_85 (by decide +kernel) ⟨⟨rfl, rfl⟩, ⟨Nat.le_of_ble_eq_true rfl, Nat.le_of_ble_eq_true rfl⟩, Nat.zero_le _, Nat.zero_le _⟩ (JN.whole rfl) 0 rfl ⟨rfl, rfl⟩ rfl rfl (Nat.le_of_ble_eq_true rfl) (fun H locs hP hD hS => ?_)
          replace hP : va_P D vwCl (cM a cI ss mm im wa hi le ro re lm rm pl nu gi bg bm sd) H := hP
          replace hD : va_D A (cM a cI ss mm im wa hi le ro re lm rm pl nu gi bg bm sd) := hD
          refine lv_istore (lv' := [(4, .int r85), (3, .int pl), (0, .ref (a 0)), (1, .int x1), (2, .int x2)]) hx hb dX4_lane_88 hl (by decide) rfl (fun ls hl => ?_)
          refine lv_aload_n hx hb dX4_lane_90 rfl (lv_at hl 2 rfl) ?_
          obtain ⟨r91, u91_pl, u91_nu, q91, h⟩ := bnd3_inv h
          refine kVI (n := 0) (As := []) (rest := []) CF hl hK hP hD hS hA (c_X4_readsStatement l D cI a ss mm im wa hi le ro re lm rm pl nu gi bg bm sd  r91 u91_pl u91_nu q91) gX4_lane_X4_readsStatement rfl dX4_lane_91 (by decide +kernel) ⟨⟨rfl, rfl⟩, ⟨Nat.le_of_ble_eq_true rfl, Nat.le_of_ble_eq_true rfl⟩, Nat.zero_le _, Nat.zero_le _⟩ (JN.whole (w1 := (cM a cI ss mm im wa hi le ro re lm rm u91_pl u91_nu gi bg bm sd)) rfl) 0 rfl ⟨rfl, rfl⟩ rfl rfl (Nat.le_of_ble_eq_true rfl) (fun H locs hP hD hS => ?_)
          replace hP : va_P D vwCl (cM a cI ss mm im wa hi le ro re lm rm u91_pl u91_nu gi bg bm sd) H := hP
          replace hD : va_D A (cM a cI ss mm im wa hi le ro re lm rm u91_pl u91_nu gi bg bm sd) := hD
          refine lv_istore (lv' := [(5, .int r91), (4, .int r85), (3, .int pl), (0, .ref (a 0)), (1, .int x1), (2, .int x2)]) hx hb dX4_lane_94 hl (by decide) rfl (fun ls hl => ?_)
          refine lv_aload_n hx hb dX4_lane_96 rfl (lv_at hl 3 rfl) ?_
          refine lv_iload hx hb dX4_lane_97 (lv_at hl 1 rfl) ?_
          obtain ⟨r99, u99_ss, q99, h⟩ := bnd2_inv h
          refine kVI (n := 1) (As := [.int r85]) (rest := []) CF hl hK hP hD hS hA (c_X4_isDone l D cI a ss mm im wa hi le ro re lm rm u91_pl u91_nu gi bg bm sd r85 r99 u99_ss q99) gX4_lane_X4_isDone rfl dX4_lane_99 (by decide +kernel) ⟨⟨rfl, rfl⟩, ⟨Nat.le_of_ble_eq_true rfl, Nat.le_of_ble_eq_true rfl⟩, Nat.zero_le _, Nat.zero_le _⟩ (JN.whole (w1 := (cM a cI u99_ss mm im wa hi le ro re lm rm u91_pl u91_nu gi bg bm sd)) rfl) 0 rfl ⟨rfl, rfl⟩ rfl rfl (Nat.le_of_ble_eq_true rfl) (fun H locs hP hD hS => ?_)
          replace hP : va_P D vwCl (cM a cI u99_ss mm im wa hi le ro re lm rm u91_pl u91_nu gi bg bm sd) H := hP
          replace hD : va_D A (cM a cI u99_ss mm im wa hi le ro re lm rm u91_pl u91_nu gi bg bm sd) := hD
          refine lv_if_eq (tgt := 108) hx hb dX4_lane_102 (by decide) (fun c102 => ?_) (fun c102 => ?_)
          · replace h := fx_ite_t c102 h
            refine lv_sipush (v := (-2000)) hx hb dX4_lane_108 (by decide) ?_
            refine lv_iload_n hx hb dX4_lane_111 rfl (lv_at hl 2 rfl) ?_
            refine lv_isub hx hb dX4_lane_112 ?_
            refine lv_istore_n (lv' := [(2, .int ((-2000 : Int32) - pl)), (5, .int r91), (4, .int r85), (3, .int pl), (0, .ref (a 0)), (1, .int x1)]) hx hb dX4_lane_113 rfl hl (by decide) rfl (fun ls hl => ?_)
            refine lv_aload_n hx hb dX4_lane_114 rfl (lv_at hl 4 rfl) ?_
            refine va_get (D := D) (ci := 4) (v := .ref (a 4)) (C := RX4) (T := TX4) (N := 16) hx hb hts i4 hown hK hP 0 rfl rfl 3 (by decide) f19 (fun _ h9 => h9) rfl dX4_lane_115 ?_
            refine lv_aload_n hx hb dX4_lane_118 rfl (lv_at hl 4 rfl) ?_
            refine va_get (D := D) (ci := 4) (v := .ref (a 1)) (C := RX4) (T := TX4) (N := 16) hx hb hts i4 hown hK hP 0 rfl rfl 0 (by decide) f9 (fun _ h9 => h9) rfl dX4_lane_119 ?_
            obtain ⟨u122_ss, q122, h⟩ := bnd1_inv h
            refine kSV (n := 2) (As := [.ref (a 4), .ref (a 1)]) (rest := []) CF hl hK hP hD hS hA (c_X4_copies l D cI (a 4) (a 1) wa u99_ss  u122_ss q122) gX4_lane_X4_copies rfl dX4_lane_122 (by decide +kernel) ⟨⟨rfl, rfl⟩, ⟨Nat.le_of_ble_eq_true rfl, Nat.le_of_ble_eq_true rfl⟩, Nat.zero_le _, Nat.zero_le _⟩ (JN.sub (wst' := (cM a cI u122_ss mm im wa hi le ro re lm rm u91_pl u91_nu gi bg bm sd)) [4, 1] rfl rfl rfl rfl) rfl rfl (Nat.le_of_ble_eq_true rfl) (fun H locs hP hD hS => ?_)
            replace hP : va_P D vwCl (cM a cI u122_ss mm im wa hi le ro re lm rm u91_pl u91_nu gi bg bm sd) H := hP
            replace hD : va_D A (cM a cI u122_ss mm im wa hi le ro re lm rm u91_pl u91_nu gi bg bm sd) := hD
            refine lv_goto (tgt := 62) hx hb dX4_lane_125 (by decide) ?_
            exact ih _ _ _ _ _ _ _ h  _ _ _ hP hD hS (lv_sub hl [4, 5, 0] rfl)
          · replace h := fx_ite_f c102 h
            refine lv_goto (tgt := 62) hx hb dX4_lane_105 (by decide) ?_
            exact ih _ _ _ _ _ _ _ h  _ _ _ hP hD hS (lv_sub hl [3, 4, 5] rfl)
  have L10 : ∀ (n : Nat) (ss : (Nat → Int32)) (wa : (Nat → Int32)) (lm : Int32) (x1 : Int32) (x2 : Int32) (pl : Int32) (nu : (Nat → Int32)), fuel (fun _ _ _ _ => none) (B_X4_lane_10 ss wa le lm) n x1 x2 pl nu = some (res, u_ss, u_wa, u_lm, u_pl, u_nu) → 
      ∀ (H : Heap) (locs : List Loc) (ls : Array Slot), va_P D vwCl (cM a cI ss mm im wa hi le ro re lm rm pl nu gi bg bm sd) H → va_D A (cM a cI ss mm im wa hi le ro re lm rm pl nu gi bg bm sd) → va_S A s.heap H locs → lv_has ls 6 [(0, .ref (a 0)), (1, .int x1), (2, .int x2)] → W p l e { frames := 8, cells := 0, slots := 0, locals := 177 } s m args below meth c H locs 0 0 Q (F0 m 10 ls []) := by
    intro n
    induction n with
    | zero =>
      intro ss wa lm x1 x2 pl nu h
      exact nomatch (show (none : Option (Int32 × (Nat → Int32) × (Nat → Int32) × Int32 × Int32 × (Nat → Int32))) = some (res, u_ss, u_wa, u_lm, u_pl, u_nu) from h)
    | succ n ih =>
      intro ss wa lm x1 x2 pl nu h  H locs ls hP hD hS hl
      replace h : B_X4_lane_10 ss wa le lm (fuel (fun _ _ _ _ => none) (B_X4_lane_10 ss wa le lm) n) x1 x2 pl nu = some (res, u_ss, u_wa, u_lm, u_pl, u_nu) := h
      unfold B_X4_lane_10 at h
      refine lv_aload_n hx hb dX4_lane_10 rfl (lv_at hl 0 rfl) ?_
      obtain ⟨r11, u11_pl, u11_nu, q11, h⟩ := bnd3_inv h
      refine kVI (n := 0) (As := []) (rest := []) CF hl hK hP hD hS hA (c_X4_readsStatement l D cI a ss mm im wa hi le ro re lm rm pl nu gi bg bm sd  r11 u11_pl u11_nu q11) gX4_lane_X4_readsStatement rfl dX4_lane_11 (by decide +kernel) ⟨⟨rfl, rfl⟩, ⟨Nat.le_of_ble_eq_true rfl, Nat.le_of_ble_eq_true rfl⟩, Nat.zero_le _, Nat.zero_le _⟩ (JN.whole (w1 := (cM a cI ss mm im wa hi le ro re lm rm u11_pl u11_nu gi bg bm sd)) rfl) 0 rfl ⟨rfl, rfl⟩ rfl rfl (Nat.le_of_ble_eq_true rfl) (fun H locs hP hD hS => ?_)
      replace hP : va_P D vwCl (cM a cI ss mm im wa hi le ro re lm rm u11_pl u11_nu gi bg bm sd) H := hP
      replace hD : va_D A (cM a cI ss mm im wa hi le ro re lm rm u11_pl u11_nu gi bg bm sd) := hD
      refine lv_if_ne (tgt := 26) hx hb dX4_lane_14 (by decide) (fun c14 => ?_) (fun c14 => ?_)
      · replace h := fx_ite_f c14 h
        refine lv_iinc (v := (x1 + 1)) (lv' := [(1, .int (x1 + 1)), (0, .ref (a 0)), (2, .int x2)]) hx hb dX4_lane_26 hl (k := 1) rfl (by first | rfl | decide) (by decide) rfl (fun ls hl => ?_)
        refine lv_iload_n hx hb dX4_lane_29 rfl (lv_at hl 2 rfl) ?_
        refine lv_bipush (v := (-9)) hx hb dX4_lane_30 (by decide) ?_
        refine lv_icmp_ne (tgt := 46) hx hb dX4_lane_32 (by decide) (fun c32 => ?_) (fun c32 => ?_)
        · replace h := fx_ite_f c32 h
          refine lv_aload_n hx hb dX4_lane_46 rfl (lv_at hl 1 rfl) ?_
          refine va_get (D := D) (ci := 4) (v := .ref (a 1)) (C := RX4) (T := TX4) (N := 16) hx hb hts i4 hown hK hP 0 rfl rfl 0 (by decide) f9 (fun _ h9 => h9) rfl dX4_lane_47 ?_
          refine lv_aload_n hx hb dX4_lane_50 rfl (lv_at hl 1 rfl) ?_
          refine va_get (D := D) (ci := 4) (v := .ref (a 4)) (C := RX4) (T := TX4) (N := 16) hx hb hts i4 hown hK hP 0 rfl rfl 3 (by decide) f19 (fun _ h9 => h9) rfl dX4_lane_51 ?_
          obtain ⟨u54_wa, q54, h⟩ := bnd1_inv h
          refine kSV (n := 2) (As := [.ref (a 1), .ref (a 4)]) (rest := []) CF hl hK hP hD hS hA (c_X4_copies l D cI (a 1) (a 4) ss wa  u54_wa q54) gX4_lane_X4_copies rfl dX4_lane_54 (by decide +kernel) ⟨⟨rfl, rfl⟩, ⟨Nat.le_of_ble_eq_true rfl, Nat.le_of_ble_eq_true rfl⟩, Nat.zero_le _, Nat.zero_le _⟩ (JN.sub (wst' := (cM a cI ss mm im u54_wa hi le ro re lm rm u11_pl u11_nu gi bg bm sd)) [1, 4] rfl rfl rfl rfl) rfl rfl (Nat.le_of_ble_eq_true rfl) (fun H locs hP hD hS => ?_)
          replace hP : va_P D vwCl (cM a cI ss mm im u54_wa hi le ro re lm rm u11_pl u11_nu gi bg bm sd) H := hP
          replace hD : va_D A (cM a cI ss mm im u54_wa hi le ro re lm rm u11_pl u11_nu gi bg bm sd) := hD
          refine lv_aload_n hx hb dX4_lane_57 rfl (lv_at hl 1 rfl) ?_
          refine lv_iconst (v := 0) hx hb dX4_lane_58 (by decide) ?_
          refine va_put (D := D) (ci := 4) (v := .int (0 : Int32)) (ty := .int) (C := RX4) (T := TX4) (N := 16) hx hb hts i4 tyX4 tyX4_ok nmX4 hown hK hP hD hS 0 rfl rfl 10 (by decide) f105 (fun _ h9 => h9) rfl (by decide +kernel) rfl rfl (Nat.le_of_ble_eq_true rfl) dX4_lane_59 (fun H locs hP hD hS => ?_)
          replace hP : va_P D vwCl (cM a cI ss mm im u54_wa hi le ro re lm rm (0 : Int32) u11_nu gi bg bm sd) H := hP
          replace hD : va_D A (cM a cI ss mm im u54_wa hi le ro re lm rm (0 : Int32) u11_nu gi bg bm sd) := hD
          exact L62 FU _ _ _ _ _ _ _ h  _ _ _ hP hD hS (lv_sub hl [1, 0, 2] rfl)
        · replace h := fx_ite_t c32 h
          refine lv_aload_n hx hb dX4_lane_35 rfl (lv_at hl 1 rfl) ?_
          refine va_get (D := D) (ci := 4) (v := .int u11_pl) (C := RX4) (T := TX4) (N := 16) hx hb hts i4 hown hK hP 0 rfl rfl 10 (by decide) f105 (fun _ h9 => h9) rfl dX4_lane_36 ?_
          refine lv_aload_n hx hb dX4_lane_39 rfl (lv_at hl 1 rfl) ?_
          refine va_get (D := D) (ci := 4) (v := .int lm) (C := RX4) (T := TX4) (N := 16) hx hb hts i4 hown hK hP 0 rfl rfl 8 (by decide) f101 (fun _ h9 => h9) rfl dX4_lane_40 ?_
          refine lv_icmp_lt (tgt := 10) hx hb dX4_lane_43 (by decide) (fun c43 => ?_) (fun c43 => ?_)
          · replace h := fx_ite_t c43 h
            exact ih _ _ _ _ _ _ _ h  _ _ _ hP hD hS (lv_sub hl [1, 0, 2] rfl)
          · replace h := fx_ite_f c43 h
            refine lv_aload_n hx hb dX4_lane_46 rfl (lv_at hl 1 rfl) ?_
            refine va_get (D := D) (ci := 4) (v := .ref (a 1)) (C := RX4) (T := TX4) (N := 16) hx hb hts i4 hown hK hP 0 rfl rfl 0 (by decide) f9 (fun _ h9 => h9) rfl dX4_lane_47 ?_
            refine lv_aload_n hx hb dX4_lane_50 rfl (lv_at hl 1 rfl) ?_
            refine va_get (D := D) (ci := 4) (v := .ref (a 4)) (C := RX4) (T := TX4) (N := 16) hx hb hts i4 hown hK hP 0 rfl rfl 3 (by decide) f19 (fun _ h9 => h9) rfl dX4_lane_51 ?_
            obtain ⟨u54_wa, q54, h⟩ := bnd1_inv h
            refine kSV (n := 2) (As := [.ref (a 1), .ref (a 4)]) (rest := []) CF hl hK hP hD hS hA (c_X4_copies l D cI (a 1) (a 4) ss wa  u54_wa q54) gX4_lane_X4_copies rfl dX4_lane_54 (by decide +kernel) ⟨⟨rfl, rfl⟩, ⟨Nat.le_of_ble_eq_true rfl, Nat.le_of_ble_eq_true rfl⟩, Nat.zero_le _, Nat.zero_le _⟩ (JN.sub (wst' := (cM a cI ss mm im u54_wa hi le ro re lm rm u11_pl u11_nu gi bg bm sd)) [1, 4] rfl rfl rfl rfl) rfl rfl (Nat.le_of_ble_eq_true rfl) (fun H locs hP hD hS => ?_)
            replace hP : va_P D vwCl (cM a cI ss mm im u54_wa hi le ro re lm rm u11_pl u11_nu gi bg bm sd) H := hP
            replace hD : va_D A (cM a cI ss mm im u54_wa hi le ro re lm rm u11_pl u11_nu gi bg bm sd) := hD
            refine lv_aload_n hx hb dX4_lane_57 rfl (lv_at hl 1 rfl) ?_
            refine lv_iconst (v := 0) hx hb dX4_lane_58 (by decide) ?_
            refine va_put (D := D) (ci := 4) (v := .int (0 : Int32)) (ty := .int) (C := RX4) (T := TX4) (N := 16) hx hb hts i4 tyX4 tyX4_ok nmX4 hown hK hP hD hS 0 rfl rfl 10 (by decide) f105 (fun _ h9 => h9) rfl (by decide +kernel) rfl rfl (Nat.le_of_ble_eq_true rfl) dX4_lane_59 (fun H locs hP hD hS => ?_)
            replace hP : va_P D vwCl (cM a cI ss mm im u54_wa hi le ro re lm rm (0 : Int32) u11_nu gi bg bm sd) H := hP
            replace hD : va_D A (cM a cI ss mm im u54_wa hi le ro re lm rm (0 : Int32) u11_nu gi bg bm sd) := hD
            exact L62 FU _ _ _ _ _ _ _ h  _ _ _ hP hD hS (lv_sub hl [1, 0, 2] rfl)
      · replace h := fx_ite_t c14 h
        refine lv_sipush (v := (-1000)) hx hb dX4_lane_17 (by decide) ?_
        refine lv_aload_n hx hb dX4_lane_20 rfl (lv_at hl 0 rfl) ?_
        refine va_get (D := D) (ci := 4) (v := .int u11_pl) (C := RX4) (T := TX4) (N := 16) hx hb hts i4 hown hK hP 0 rfl rfl 10 (by decide) f105 (fun _ h9 => h9) rfl dX4_lane_21 ?_
        refine lv_isub hx hb dX4_lane_24 ?_
        refine lv_istore_n (lv' := [(2, .int ((-1000 : Int32) - u11_pl)), (0, .ref (a 0)), (1, .int x1)]) hx hb dX4_lane_25 rfl hl (by decide) rfl (fun ls hl => ?_)
        refine lv_iinc (v := (x1 + 1)) (lv' := [(1, .int (x1 + 1)), (2, .int ((-1000 : Int32) - u11_pl)), (0, .ref (a 0))]) hx hb dX4_lane_26 hl (k := 2) rfl (by first | rfl | decide) (by decide) rfl (fun ls hl => ?_)
        refine lv_iload_n hx hb dX4_lane_29 rfl (lv_at hl 1 rfl) ?_
        refine lv_bipush (v := (-9)) hx hb dX4_lane_30 (by decide) ?_
        refine lv_icmp_ne (tgt := 46) hx hb dX4_lane_32 (by decide) (fun c32 => ?_) (fun c32 => ?_)
        · replace h := fx_ite_f c32 h
          refine lv_aload_n hx hb dX4_lane_46 rfl (lv_at hl 2 rfl) ?_
          refine va_get (D := D) (ci := 4) (v := .ref (a 1)) (C := RX4) (T := TX4) (N := 16) hx hb hts i4 hown hK hP 0 rfl rfl 0 (by decide) f9 (fun _ h9 => h9) rfl dX4_lane_47 ?_
          refine lv_aload_n hx hb dX4_lane_50 rfl (lv_at hl 2 rfl) ?_
          refine va_get (D := D) (ci := 4) (v := .ref (a 4)) (C := RX4) (T := TX4) (N := 16) hx hb hts i4 hown hK hP 0 rfl rfl 3 (by decide) f19 (fun _ h9 => h9) rfl dX4_lane_51 ?_
          obtain ⟨u54_wa, q54, h⟩ := bnd1_inv h
          refine kSV (n := 2) (As := [.ref (a 1), .ref (a 4)]) (rest := []) CF hl hK hP hD hS hA (c_X4_copies l D cI (a 1) (a 4) ss wa  u54_wa q54) gX4_lane_X4_copies rfl dX4_lane_54 (by decide +kernel) ⟨⟨rfl, rfl⟩, ⟨Nat.le_of_ble_eq_true rfl, Nat.le_of_ble_eq_true rfl⟩, Nat.zero_le _, Nat.zero_le _⟩ (JN.sub (wst' := (cM a cI ss mm im u54_wa hi le ro re lm rm u11_pl u11_nu gi bg bm sd)) [1, 4] rfl rfl rfl rfl) rfl rfl (Nat.le_of_ble_eq_true rfl) (fun H locs hP hD hS => ?_)
          replace hP : va_P D vwCl (cM a cI ss mm im u54_wa hi le ro re lm rm u11_pl u11_nu gi bg bm sd) H := hP
          replace hD : va_D A (cM a cI ss mm im u54_wa hi le ro re lm rm u11_pl u11_nu gi bg bm sd) := hD
          refine lv_aload_n hx hb dX4_lane_57 rfl (lv_at hl 2 rfl) ?_
          refine lv_iconst (v := 0) hx hb dX4_lane_58 (by decide) ?_
          refine va_put (D := D) (ci := 4) (v := .int (0 : Int32)) (ty := .int) (C := RX4) (T := TX4) (N := 16) hx hb hts i4 tyX4 tyX4_ok nmX4 hown hK hP hD hS 0 rfl rfl 10 (by decide) f105 (fun _ h9 => h9) rfl (by decide +kernel) rfl rfl (Nat.le_of_ble_eq_true rfl) dX4_lane_59 (fun H locs hP hD hS => ?_)
          replace hP : va_P D vwCl (cM a cI ss mm im u54_wa hi le ro re lm rm (0 : Int32) u11_nu gi bg bm sd) H := hP
          replace hD : va_D A (cM a cI ss mm im u54_wa hi le ro re lm rm (0 : Int32) u11_nu gi bg bm sd) := hD
          exact L62 FU _ _ _ _ _ _ _ h  _ _ _ hP hD hS (lv_sub hl [2, 0, 1] rfl)
        · replace h := fx_ite_t c32 h
          refine lv_aload_n hx hb dX4_lane_35 rfl (lv_at hl 2 rfl) ?_
          refine va_get (D := D) (ci := 4) (v := .int u11_pl) (C := RX4) (T := TX4) (N := 16) hx hb hts i4 hown hK hP 0 rfl rfl 10 (by decide) f105 (fun _ h9 => h9) rfl dX4_lane_36 ?_
          refine lv_aload_n hx hb dX4_lane_39 rfl (lv_at hl 2 rfl) ?_
          refine va_get (D := D) (ci := 4) (v := .int lm) (C := RX4) (T := TX4) (N := 16) hx hb hts i4 hown hK hP 0 rfl rfl 8 (by decide) f101 (fun _ h9 => h9) rfl dX4_lane_40 ?_
          refine lv_icmp_lt (tgt := 10) hx hb dX4_lane_43 (by decide) (fun c43 => ?_) (fun c43 => ?_)
          · replace h := fx_ite_t c43 h
            exact ih _ _ _ _ _ _ _ h  _ _ _ hP hD hS (lv_sub hl [2, 0, 1] rfl)
          · replace h := fx_ite_f c43 h
            refine lv_aload_n hx hb dX4_lane_46 rfl (lv_at hl 2 rfl) ?_
            refine va_get (D := D) (ci := 4) (v := .ref (a 1)) (C := RX4) (T := TX4) (N := 16) hx hb hts i4 hown hK hP 0 rfl rfl 0 (by decide) f9 (fun _ h9 => h9) rfl dX4_lane_47 ?_
            refine lv_aload_n hx hb dX4_lane_50 rfl (lv_at hl 2 rfl) ?_
            refine va_get (D := D) (ci := 4) (v := .ref (a 4)) (C := RX4) (T := TX4) (N := 16) hx hb hts i4 hown hK hP 0 rfl rfl 3 (by decide) f19 (fun _ h9 => h9) rfl dX4_lane_51 ?_
            obtain ⟨u54_wa, q54, h⟩ := bnd1_inv h
            refine kSV (n := 2) (As := [.ref (a 1), .ref (a 4)]) (rest := []) CF hl hK hP hD hS hA (c_X4_copies l D cI (a 1) (a 4) ss wa  u54_wa q54) gX4_lane_X4_copies rfl dX4_lane_54 (by decide +kernel) ⟨⟨rfl, rfl⟩, ⟨Nat.le_of_ble_eq_true rfl, Nat.le_of_ble_eq_true rfl⟩, Nat.zero_le _, Nat.zero_le _⟩ (JN.sub (wst' := (cM a cI ss mm im u54_wa hi le ro re lm rm u11_pl u11_nu gi bg bm sd)) [1, 4] rfl rfl rfl rfl) rfl rfl (Nat.le_of_ble_eq_true rfl) (fun H locs hP hD hS => ?_)
            replace hP : va_P D vwCl (cM a cI ss mm im u54_wa hi le ro re lm rm u11_pl u11_nu gi bg bm sd) H := hP
            replace hD : va_D A (cM a cI ss mm im u54_wa hi le ro re lm rm u11_pl u11_nu gi bg bm sd) := hD
            refine lv_aload_n hx hb dX4_lane_57 rfl (lv_at hl 2 rfl) ?_
            refine lv_iconst (v := 0) hx hb dX4_lane_58 (by decide) ?_
            refine va_put (D := D) (ci := 4) (v := .int (0 : Int32)) (ty := .int) (C := RX4) (T := TX4) (N := 16) hx hb hts i4 tyX4 tyX4_ok nmX4 hown hK hP hD hS 0 rfl rfl 10 (by decide) f105 (fun _ h9 => h9) rfl (by decide +kernel) rfl rfl (Nat.le_of_ble_eq_true rfl) dX4_lane_59 (fun H locs hP hD hS => ?_)
            replace hP : va_P D vwCl (cM a cI ss mm im u54_wa hi le ro re lm rm (0 : Int32) u11_nu gi bg bm sd) H := hP
            replace hD : va_D A (cM a cI ss mm im u54_wa hi le ro re lm rm (0 : Int32) u11_nu gi bg bm sd) := hD
            exact L62 FU _ _ _ _ _ _ _ h  _ _ _ hP hD hS (lv_sub hl [2, 0, 1] rfl)
  unfold M_X4_lane at h
  refine lv_aload_n hx hb dX4_lane_0 rfl (lv_at hl 0 rfl) ?_
  refine lv_iconst (v := 0) hx hb dX4_lane_1 (by decide) ?_
  refine va_put (D := D) (ci := 4) (v := .int (0 : Int32)) (ty := .int) (C := RX4) (T := TX4) (N := 16) hx hb hts i4 tyX4 tyX4_ok nmX4 hown hK hP hD hS 0 rfl rfl 10 (by decide) f105 (fun _ h9 => h9) rfl (by decide +kernel) rfl rfl (Nat.le_of_ble_eq_true rfl) dX4_lane_2 (fun H locs hP hD hS => ?_)
  replace hP : va_P D vwCl (cM a cI ss mm im wa hi le ro re lm rm (0 : Int32) nu gi bg bm sd) H := hP
  replace hD : va_D A (cM a cI ss mm im wa hi le ro re lm rm (0 : Int32) nu gi bg bm sd) := hD
  refine lv_iconst (v := 0) hx hb dX4_lane_5 (by decide) ?_
  refine lv_istore_n (lv' := [(1, .int (0 : Int32)), (0, .ref (a 0))]) hx hb dX4_lane_6 rfl hl (by decide) rfl (fun ls hl => ?_)
  refine lv_bipush (v := (-9)) hx hb dX4_lane_7 (by decide) ?_
  refine lv_istore_n (lv' := [(2, .int (-9 : Int32)), (1, .int (0 : Int32)), (0, .ref (a 0))]) hx hb dX4_lane_9 rfl hl (by decide) rfl (fun ls hl => ?_)
  exact L10 FU _ _ _ _ _ _ _ h  _ _ _ hP hD hS (lv_sub hl [2, 1, 0] rfl)
