/-! X4_wears -/
set_option maxHeartbeats 4000000 in
set_option maxRecDepth 100000 in
theorem c_X4_wears (l : Launch) (D : va_G) (cI : ClassId) (a : Nat → Nat) (ss : (Nat → Int32)) (mm : (Nat → Int32)) (im : (Nat → Int32)) (wa : (Nat → Int32)) (hi : Int32) (le : (Nat → Int32)) (ro : (Nat → Int32)) (re : (Nat → Int32)) (lm : Int32) (rm : Int32) (pl : Int32) (nu : (Nat → Int32)) (gi : (Nat → Int32)) (bg : (Nat → Int32)) (bm : Int32) (sd : Int32) (p1 : Int32) (p2 : Int32) (res : Int32) (u_ss : (Nat → Int32)) (u_re : (Nat → Int32)) (h : M_X4_wears ss re p1 p2 = some (res, u_ss, u_re)) : mI l yX4_wears wsX4_wears { frames := 2, cells := 0, slots := 0, locals := 43 } D cI [.ref (a 0), .int p1, .int p2] (cM a cI ss mm im wa hi le ro re lm rm pl nu gi bg bm sd) (cM a cI u_ss mm im wa hi le ro u_re lm rm pl nu gi bg bm sd) res := by
  intro sz
  refine mStart (cc := cX4_wears) (maxL := 5) (ret := (some .int)) (own := RX4) (by decide) rfl rfl (Nat.le_of_ble_eq_true rfl) (lv := [(0, .ref (a 0)), (1, .int p1), (2, .int p2)]) rfl ?_
  intro p e s m args below meth c A ls Q H locs CF hr hlocks hK hP hD hS hA hAe hl hQ
  obtain ⟨hx, hb, hml, hown, hts⟩ := id CF
  have f9 := hts (.fieldLink RX4 9 "MendAnothersBreakingModel" "s" "[I") (List.mem_of_getElem? (i := 1) rfl)
  have i4 : ∀ w ∈ wsX40, w ∈ wsX4_wears := fun w h => List.mem_cons_of_mem _ (List.mem_append_right _ h)
  unfold M_X4_wears at h
  refine lv_aload_n hx hb dX4_wears_0 rfl (lv_at hl 0 rfl) ?_
  refine lv_iload_n hx hb dX4_wears_1 rfl (lv_at hl 1 rfl) ?_
  obtain ⟨r2, q2, h⟩ := bnd1_inv h
  refine kVI (n := 1) (As := [.int p1]) (rest := []) CF hl hK hP hD hS hA (c_X4_isThing l D cI a ss mm im wa hi le ro re lm rm pl nu gi bg bm sd p1 r2 q2) gX4_wears_X4_isThing rfl dX4_wears_2 (by decide +kernel) ⟨⟨rfl, rfl⟩, ⟨Nat.le_of_ble_eq_true rfl, Nat.le_of_ble_eq_true rfl⟩, Nat.zero_le _, Nat.zero_le _⟩ (JN.whole rfl) 0 rfl ⟨rfl, rfl⟩ rfl rfl (Nat.le_of_ble_eq_true rfl) (fun H locs hP hD hS => ?_)
  replace hP : va_P D vwCl (cM a cI ss mm im wa hi le ro re lm rm pl nu gi bg bm sd) H := hP
  replace hD : va_D A (cM a cI ss mm im wa hi le ro re lm rm pl nu gi bg bm sd) := hD
  refine lv_if_eq (tgt := 17) hx hb dX4_wears_5 (by decide) (fun c5 => ?_) (fun c5 => ?_)
  · replace h := fx_ite_t c5 h
    refine lv_iconst (v := (-1)) hx hb dX4_wears_17 (by decide) ?_
    refine lv_istore_n (lv' := [(3, .int (-1 : Int32)), (0, .ref (a 0)), (1, .int p1), (2, .int p2)]) hx hb dX4_wears_18 rfl hl (by decide) rfl (fun ls hl => ?_)
    refine lv_iload_n hx hb dX4_wears_19 rfl (lv_at hl 0 rfl) ?_
    refine lv_if_eq (tgt := 29) hx hb dX4_wears_20 (by decide) (fun c9 => absurd c9 (by decide)) (fun _ => ?_)
    refine lv_aload_n hx hb dX4_wears_23 rfl (lv_at hl 1 rfl) ?_
    refine lv_iload_n hx hb dX4_wears_24 rfl (lv_at hl 0 rfl) ?_
    obtain ⟨r25, u25_re, q25, h⟩ := bnd2_inv h
    refine kVI (n := 1) (As := [.int (-1 : Int32)]) (rest := []) CF hl hK hP hD hS hA (c_X4_no l D cI a ss mm im wa hi le ro re lm rm pl nu gi bg bm sd (-1 : Int32) r25 u25_re q25) gX4_wears_X4_no rfl dX4_wears_25 (by decide +kernel) ⟨⟨rfl, rfl⟩, ⟨Nat.le_of_ble_eq_true rfl, Nat.le_of_ble_eq_true rfl⟩, Nat.zero_le _, Nat.zero_le _⟩ (JN.whole (w1 := (cM a cI ss mm im wa hi le ro u25_re lm rm pl nu gi bg bm sd)) rfl) 0 rfl ⟨rfl, rfl⟩ rfl rfl (Nat.le_of_ble_eq_true rfl) (fun H locs hP hD hS => ?_)
    replace hP : va_P D vwCl (cM a cI ss mm im wa hi le ro u25_re lm rm pl nu gi bg bm sd) H := hP
    replace hD : va_D A (cM a cI ss mm im wa hi le ro u25_re lm rm pl nu gi bg bm sd) := hD
    obtain ⟨rfl, rfl, rfl⟩ := rtv3 h
    exact rI hQ hx hb hr hlocks hAe hP hS rfl rfl dX4_wears_28
  · replace h := fx_ite_f c5 h
    refine lv_iload_n hx hb dX4_wears_8 rfl (lv_at hl 2 rfl) ?_
    refine lv_bipush (v := 9) hx hb dX4_wears_9 (by decide) ?_
    obtain ⟨r11, q11, h⟩ := bnd1_inv h
    refine kSI (n := 2) (As := [.int p2, .int (9 : Int32)]) (rest := []) CF hl hK hP hD hS hA (c_X4_wrongBy l D cI   p2 (9 : Int32) r11 q11) gX4_wears_X4_wrongBy rfl dX4_wears_11 (by decide +kernel) ⟨⟨rfl, rfl⟩, ⟨Nat.le_of_ble_eq_true rfl, Nat.le_of_ble_eq_true rfl⟩, Nat.zero_le _, Nat.zero_le _⟩ (JN.ro [] rfl rfl) rfl rfl (Nat.le_of_ble_eq_true rfl) (fun H locs hP hD hS => ?_)
    refine lv_goto (tgt := 18) hx hb dX4_wears_14 (by decide) ?_
    refine lv_istore_n (lv' := [(3, .int r11), (0, .ref (a 0)), (1, .int p1), (2, .int p2)]) hx hb dX4_wears_18 rfl hl (by decide) rfl (fun ls hl => ?_)
    refine lv_iload_n hx hb dX4_wears_19 rfl (lv_at hl 0 rfl) ?_
    refine lv_if_eq (tgt := 29) hx hb dX4_wears_20 (by decide) (fun c20 => ?_) (fun c20 => ?_)
    · replace h := fx_ite_t c20 h
      refine lv_aload_n hx hb dX4_wears_29 rfl (lv_at hl 1 rfl) ?_
      refine va_get (D := D) (ci := 4) (v := .ref (a 1)) (C := RX4) (T := TX4) (N := 16) hx hb hts i4 hown hK hP 0 rfl rfl 0 (by decide) f9 (fun _ h9 => h9) rfl dX4_wears_30 ?_
      refine lv_iload_n hx hb dX4_wears_33 rfl (lv_at hl 2 rfl) ?_
      obtain ⟨r34, q34, h⟩ := bnd1_inv h
      refine kSI (n := 1) (As := [.int p1]) (rest := [.ref (a 1)]) CF hl hK hP hD hS hA (c_X4_ofT l D cI   p1 r34 q34) gX4_wears_X4_ofT rfl dX4_wears_34 (by decide +kernel) ⟨⟨rfl, rfl⟩, ⟨Nat.le_of_ble_eq_true rfl, Nat.le_of_ble_eq_true rfl⟩, Nat.zero_le _, Nat.zero_le _⟩ (JN.ro [] rfl rfl) rfl rfl (Nat.le_of_ble_eq_true rfl) (fun H locs hP hD hS => ?_)
      refine lv_iconst (v := 3) hx hb dX4_wears_37 (by decide) ?_
      refine lv_iadd hx hb dX4_wears_38 ?_
      obtain ⟨g39, h⟩ := chk_inv h
      refine va_iald (n := 61) (f := ss) hx hb hK hP 1 0 rfl rfl g39 dX4_wears_39 ?_
      refine lv_istore (lv' := [(4, .int (ss (Int32.toNatClampNeg (r34 + (3 : Int32))))), (3, .int r11), (0, .ref (a 0)), (1, .int p1), (2, .int p2)]) hx hb dX4_wears_40 hl (by decide) rfl (fun ls hl => ?_)
      refine lv_aload_n hx hb dX4_wears_42 rfl (lv_at hl 2 rfl) ?_
      refine va_get (D := D) (ci := 4) (v := .ref (a 1)) (C := RX4) (T := TX4) (N := 16) hx hb hts i4 hown hK hP 0 rfl rfl 0 (by decide) f9 (fun _ h9 => h9) rfl dX4_wears_43 ?_
      refine lv_iload_n hx hb dX4_wears_46 rfl (lv_at hl 3 rfl) ?_
      obtain ⟨r47, q47, h⟩ := bnd1_inv h
      refine kSI (n := 1) (As := [.int p1]) (rest := [.ref (a 1)]) CF hl hK hP hD hS hA (c_X4_ofT l D cI   p1 r47 q47) gX4_wears_X4_ofT rfl dX4_wears_47 (by decide +kernel) ⟨⟨rfl, rfl⟩, ⟨Nat.le_of_ble_eq_true rfl, Nat.le_of_ble_eq_true rfl⟩, Nat.zero_le _, Nat.zero_le _⟩ (JN.ro [] rfl rfl) rfl rfl (Nat.le_of_ble_eq_true rfl) (fun H locs hP hD hS => ?_)
      refine lv_iconst (v := 3) hx hb dX4_wears_50 (by decide) ?_
      refine lv_iadd hx hb dX4_wears_51 ?_
      refine lv_iload_n hx hb dX4_wears_52 rfl (lv_at hl 4 rfl) ?_
      obtain ⟨g53, h⟩ := chk_inv h
      refine va_iast (n := 61) (f := ss) hx hb hK hP hD hS 1 0 rfl rfl g53 dX4_wears_53 (fun H locs hP hD hS => ?_)
      replace hP : va_P D vwCl (cM a cI (upd ss (Int32.toNatClampNeg (r47 + (3 : Int32))) p2) mm im wa hi le ro re lm rm pl nu gi bg bm sd) H := hP
      replace hD : va_D A (cM a cI (upd ss (Int32.toNatClampNeg (r47 + (3 : Int32))) p2) mm im wa hi le ro re lm rm pl nu gi bg bm sd) := hD
      refine lv_iload hx hb dX4_wears_54 (lv_at hl 0 rfl) ?_
      obtain ⟨rfl, rfl, rfl⟩ := rtv3 h
      exact rI hQ hx hb hr hlocks hAe hP hS rfl rfl dX4_wears_56
    · replace h := fx_ite_f c20 h
      refine lv_aload_n hx hb dX4_wears_23 rfl (lv_at hl 1 rfl) ?_
      refine lv_iload_n hx hb dX4_wears_24 rfl (lv_at hl 0 rfl) ?_
      obtain ⟨r25, u25_re, q25, h⟩ := bnd2_inv h
      refine kVI (n := 1) (As := [.int r11]) (rest := []) CF hl hK hP hD hS hA (c_X4_no l D cI a ss mm im wa hi le ro re lm rm pl nu gi bg bm sd r11 r25 u25_re q25) gX4_wears_X4_no rfl dX4_wears_25 (by decide +kernel) ⟨⟨rfl, rfl⟩, ⟨Nat.le_of_ble_eq_true rfl, Nat.le_of_ble_eq_true rfl⟩, Nat.zero_le _, Nat.zero_le _⟩ (JN.whole (w1 := (cM a cI ss mm im wa hi le ro u25_re lm rm pl nu gi bg bm sd)) rfl) 0 rfl ⟨rfl, rfl⟩ rfl rfl (Nat.le_of_ble_eq_true rfl) (fun H locs hP hD hS => ?_)
      replace hP : va_P D vwCl (cM a cI ss mm im wa hi le ro u25_re lm rm pl nu gi bg bm sd) H := hP
      replace hD : va_D A (cM a cI ss mm im wa hi le ro u25_re lm rm pl nu gi bg bm sd) := hD
      obtain ⟨rfl, rfl, rfl⟩ := rtv3 h
      exact rI hQ hx hb hr hlocks hAe hP hS rfl rfl dX4_wears_28
/-! X4_skill -/
set_option maxHeartbeats 4000000 in
set_option maxRecDepth 100000 in
theorem c_X4_skill (l : Launch) (D : va_G) (cI : ClassId) (a : Nat → Nat) (ss : (Nat → Int32)) (mm : (Nat → Int32)) (im : (Nat → Int32)) (wa : (Nat → Int32)) (hi : Int32) (le : (Nat → Int32)) (ro : (Nat → Int32)) (re : (Nat → Int32)) (lm : Int32) (rm : Int32) (pl : Int32) (nu : (Nat → Int32)) (gi : (Nat → Int32)) (bg : (Nat → Int32)) (bm : Int32) (sd : Int32) (p1 : Int32) (p2 : Int32) (res : Int32) (u_ss : (Nat → Int32)) (u_re : (Nat → Int32)) (h : M_X4_skill ss re p1 p2 = some (res, u_ss, u_re)) : mI l yX4_skill wsX4_skill { frames := 2, cells := 0, slots := 0, locals := 43 } D cI [.ref (a 0), .int p1, .int p2] (cM a cI ss mm im wa hi le ro re lm rm pl nu gi bg bm sd) (cM a cI u_ss mm im wa hi le ro u_re lm rm pl nu gi bg bm sd) res := by
  intro sz
  refine mStart (cc := cX4_skill) (maxL := 5) (ret := (some .int)) (own := RX4) (by decide) rfl rfl (Nat.le_of_ble_eq_true rfl) (lv := [(0, .ref (a 0)), (1, .int p1), (2, .int p2)]) rfl ?_
  intro p e s m args below meth c A ls Q H locs CF hr hlocks hK hP hD hS hA hAe hl hQ
  obtain ⟨hx, hb, hml, hown, hts⟩ := id CF
  have f9 := hts (.fieldLink RX4 9 "MendAnothersBreakingModel" "s" "[I") (List.mem_of_getElem? (i := 1) rfl)
  have i4 : ∀ w ∈ wsX40, w ∈ wsX4_skill := fun w h => List.mem_cons_of_mem _ (List.mem_append_right _ h)
  unfold M_X4_skill at h
  refine lv_aload_n hx hb dX4_skill_0 rfl (lv_at hl 0 rfl) ?_
  refine lv_iload_n hx hb dX4_skill_1 rfl (lv_at hl 1 rfl) ?_
  obtain ⟨r2, q2, h⟩ := bnd1_inv h
  refine kVI (n := 1) (As := [.int p1]) (rest := []) CF hl hK hP hD hS hA (c_X4_isPerson l D cI a ss mm im wa hi le ro re lm rm pl nu gi bg bm sd p1 r2 q2) gX4_skill_X4_isPerson rfl dX4_skill_2 (by decide +kernel) ⟨⟨rfl, rfl⟩, ⟨Nat.le_of_ble_eq_true rfl, Nat.le_of_ble_eq_true rfl⟩, Nat.zero_le _, Nat.zero_le _⟩ (JN.whole rfl) 0 rfl ⟨rfl, rfl⟩ rfl rfl (Nat.le_of_ble_eq_true rfl) (fun H locs hP hD hS => ?_)
  replace hP : va_P D vwCl (cM a cI ss mm im wa hi le ro re lm rm pl nu gi bg bm sd) H := hP
  replace hD : va_D A (cM a cI ss mm im wa hi le ro re lm rm pl nu gi bg bm sd) := hD
  refine lv_if_eq (tgt := 17) hx hb dX4_skill_5 (by decide) (fun c5 => ?_) (fun c5 => ?_)
  · replace h := fx_ite_t c5 h
    refine lv_iconst (v := (-1)) hx hb dX4_skill_17 (by decide) ?_
    refine lv_istore_n (lv' := [(3, .int (-1 : Int32)), (0, .ref (a 0)), (1, .int p1), (2, .int p2)]) hx hb dX4_skill_18 rfl hl (by decide) rfl (fun ls hl => ?_)
    refine lv_iload_n hx hb dX4_skill_19 rfl (lv_at hl 0 rfl) ?_
    refine lv_if_eq (tgt := 29) hx hb dX4_skill_20 (by decide) (fun c9 => absurd c9 (by decide)) (fun _ => ?_)
    refine lv_aload_n hx hb dX4_skill_23 rfl (lv_at hl 1 rfl) ?_
    refine lv_iload_n hx hb dX4_skill_24 rfl (lv_at hl 0 rfl) ?_
    obtain ⟨r25, u25_re, q25, h⟩ := bnd2_inv h
    refine kVI (n := 1) (As := [.int (-1 : Int32)]) (rest := []) CF hl hK hP hD hS hA (c_X4_no l D cI a ss mm im wa hi le ro re lm rm pl nu gi bg bm sd (-1 : Int32) r25 u25_re q25) gX4_skill_X4_no rfl dX4_skill_25 (by decide +kernel) ⟨⟨rfl, rfl⟩, ⟨Nat.le_of_ble_eq_true rfl, Nat.le_of_ble_eq_true rfl⟩, Nat.zero_le _, Nat.zero_le _⟩ (JN.whole (w1 := (cM a cI ss mm im wa hi le ro u25_re lm rm pl nu gi bg bm sd)) rfl) 0 rfl ⟨rfl, rfl⟩ rfl rfl (Nat.le_of_ble_eq_true rfl) (fun H locs hP hD hS => ?_)
    replace hP : va_P D vwCl (cM a cI ss mm im wa hi le ro u25_re lm rm pl nu gi bg bm sd) H := hP
    replace hD : va_D A (cM a cI ss mm im wa hi le ro u25_re lm rm pl nu gi bg bm sd) := hD
    obtain ⟨rfl, rfl, rfl⟩ := rtv3 h
    exact rI hQ hx hb hr hlocks hAe hP hS rfl rfl dX4_skill_28
  · replace h := fx_ite_f c5 h
    refine lv_iload_n hx hb dX4_skill_8 rfl (lv_at hl 2 rfl) ?_
    refine lv_bipush (v := 9) hx hb dX4_skill_9 (by decide) ?_
    obtain ⟨r11, q11, h⟩ := bnd1_inv h
    refine kSI (n := 2) (As := [.int p2, .int (9 : Int32)]) (rest := []) CF hl hK hP hD hS hA (c_X4_wrongBy l D cI   p2 (9 : Int32) r11 q11) gX4_skill_X4_wrongBy rfl dX4_skill_11 (by decide +kernel) ⟨⟨rfl, rfl⟩, ⟨Nat.le_of_ble_eq_true rfl, Nat.le_of_ble_eq_true rfl⟩, Nat.zero_le _, Nat.zero_le _⟩ (JN.ro [] rfl rfl) rfl rfl (Nat.le_of_ble_eq_true rfl) (fun H locs hP hD hS => ?_)
    refine lv_goto (tgt := 18) hx hb dX4_skill_14 (by decide) ?_
    refine lv_istore_n (lv' := [(3, .int r11), (0, .ref (a 0)), (1, .int p1), (2, .int p2)]) hx hb dX4_skill_18 rfl hl (by decide) rfl (fun ls hl => ?_)
    refine lv_iload_n hx hb dX4_skill_19 rfl (lv_at hl 0 rfl) ?_
    refine lv_if_eq (tgt := 29) hx hb dX4_skill_20 (by decide) (fun c20 => ?_) (fun c20 => ?_)
    · replace h := fx_ite_t c20 h
      refine lv_aload_n hx hb dX4_skill_29 rfl (lv_at hl 1 rfl) ?_
      refine va_get (D := D) (ci := 4) (v := .ref (a 1)) (C := RX4) (T := TX4) (N := 16) hx hb hts i4 hown hK hP 0 rfl rfl 0 (by decide) f9 (fun _ h9 => h9) rfl dX4_skill_30 ?_
      refine lv_iload_n hx hb dX4_skill_33 rfl (lv_at hl 2 rfl) ?_
      obtain ⟨r34, q34, h⟩ := bnd1_inv h
      refine kSI (n := 1) (As := [.int p1]) (rest := [.ref (a 1)]) CF hl hK hP hD hS hA (c_X4_ofP l D cI   p1 r34 q34) gX4_skill_X4_ofP rfl dX4_skill_34 (by decide +kernel) ⟨⟨rfl, rfl⟩, ⟨Nat.le_of_ble_eq_true rfl, Nat.le_of_ble_eq_true rfl⟩, Nat.zero_le _, Nat.zero_le _⟩ (JN.ro [] rfl rfl) rfl rfl (Nat.le_of_ble_eq_true rfl) (fun H locs hP hD hS => ?_)
      refine lv_iconst (v := 0) hx hb dX4_skill_37 (by decide) ?_
      refine lv_iadd hx hb dX4_skill_38 ?_
      obtain ⟨g39, h⟩ := chk_inv h
      refine va_iald (n := 61) (f := ss) hx hb hK hP 1 0 rfl rfl g39 dX4_skill_39 ?_
      refine lv_istore (lv' := [(4, .int (ss (Int32.toNatClampNeg (r34 + (0 : Int32))))), (3, .int r11), (0, .ref (a 0)), (1, .int p1), (2, .int p2)]) hx hb dX4_skill_40 hl (by decide) rfl (fun ls hl => ?_)
      refine lv_aload_n hx hb dX4_skill_42 rfl (lv_at hl 2 rfl) ?_
      refine va_get (D := D) (ci := 4) (v := .ref (a 1)) (C := RX4) (T := TX4) (N := 16) hx hb hts i4 hown hK hP 0 rfl rfl 0 (by decide) f9 (fun _ h9 => h9) rfl dX4_skill_43 ?_
      refine lv_iload_n hx hb dX4_skill_46 rfl (lv_at hl 3 rfl) ?_
      obtain ⟨r47, q47, h⟩ := bnd1_inv h
      refine kSI (n := 1) (As := [.int p1]) (rest := [.ref (a 1)]) CF hl hK hP hD hS hA (c_X4_ofP l D cI   p1 r47 q47) gX4_skill_X4_ofP rfl dX4_skill_47 (by decide +kernel) ⟨⟨rfl, rfl⟩, ⟨Nat.le_of_ble_eq_true rfl, Nat.le_of_ble_eq_true rfl⟩, Nat.zero_le _, Nat.zero_le _⟩ (JN.ro [] rfl rfl) rfl rfl (Nat.le_of_ble_eq_true rfl) (fun H locs hP hD hS => ?_)
      refine lv_iconst (v := 0) hx hb dX4_skill_50 (by decide) ?_
      refine lv_iadd hx hb dX4_skill_51 ?_
      refine lv_iload_n hx hb dX4_skill_52 rfl (lv_at hl 4 rfl) ?_
      obtain ⟨g53, h⟩ := chk_inv h
      refine va_iast (n := 61) (f := ss) hx hb hK hP hD hS 1 0 rfl rfl g53 dX4_skill_53 (fun H locs hP hD hS => ?_)
      replace hP : va_P D vwCl (cM a cI (upd ss (Int32.toNatClampNeg (r47 + (0 : Int32))) p2) mm im wa hi le ro re lm rm pl nu gi bg bm sd) H := hP
      replace hD : va_D A (cM a cI (upd ss (Int32.toNatClampNeg (r47 + (0 : Int32))) p2) mm im wa hi le ro re lm rm pl nu gi bg bm sd) := hD
      refine lv_iload hx hb dX4_skill_54 (lv_at hl 0 rfl) ?_
      obtain ⟨rfl, rfl, rfl⟩ := rtv3 h
      exact rI hQ hx hb hr hlocks hAe hP hS rfl rfl dX4_skill_56
    · replace h := fx_ite_f c20 h
      refine lv_aload_n hx hb dX4_skill_23 rfl (lv_at hl 1 rfl) ?_
      refine lv_iload_n hx hb dX4_skill_24 rfl (lv_at hl 0 rfl) ?_
      obtain ⟨r25, u25_re, q25, h⟩ := bnd2_inv h
      refine kVI (n := 1) (As := [.int r11]) (rest := []) CF hl hK hP hD hS hA (c_X4_no l D cI a ss mm im wa hi le ro re lm rm pl nu gi bg bm sd r11 r25 u25_re q25) gX4_skill_X4_no rfl dX4_skill_25 (by decide +kernel) ⟨⟨rfl, rfl⟩, ⟨Nat.le_of_ble_eq_true rfl, Nat.le_of_ble_eq_true rfl⟩, Nat.zero_le _, Nat.zero_le _⟩ (JN.whole (w1 := (cM a cI ss mm im wa hi le ro u25_re lm rm pl nu gi bg bm sd)) rfl) 0 rfl ⟨rfl, rfl⟩ rfl rfl (Nat.le_of_ble_eq_true rfl) (fun H locs hP hD hS => ?_)
      replace hP : va_P D vwCl (cM a cI ss mm im wa hi le ro u25_re lm rm pl nu gi bg bm sd) H := hP
      replace hD : va_D A (cM a cI ss mm im wa hi le ro u25_re lm rm pl nu gi bg bm sd) := hD
      obtain ⟨rfl, rfl, rfl⟩ := rtv3 h
      exact rI hQ hx hb hr hlocks hAe hP hS rfl rfl dX4_skill_28
/-! X4_turn -/
set_option maxHeartbeats 4000000 in
set_option maxRecDepth 100000 in
theorem c_X4_turn (l : Launch) (D : va_G) (cI : ClassId) (a : Nat → Nat) (ss : (Nat → Int32)) (mm : (Nat → Int32)) (im : (Nat → Int32)) (wa : (Nat → Int32)) (hi : Int32) (le : (Nat → Int32)) (ro : (Nat → Int32)) (re : (Nat → Int32)) (lm : Int32) (rm : Int32) (pl : Int32) (nu : (Nat → Int32)) (gi : (Nat → Int32)) (bg : (Nat → Int32)) (bm : Int32) (sd : Int32) (p1 : Int32) (p2 : Int32) (p3 : Int32) (res : Int32) (u_ss : (Nat → Int32)) (u_re : (Nat → Int32)) (h : M_X4_turn ss re p1 p2 p3 = some (res, u_ss, u_re)) : mI l yX4_turn wsX4_turn { frames := 2, cells := 0, slots := 0, locals := 43 } D cI [.ref (a 0), .int p1, .int p2, .int p3] (cM a cI ss mm im wa hi le ro re lm rm pl nu gi bg bm sd) (cM a cI u_ss mm im wa hi le ro u_re lm rm pl nu gi bg bm sd) res := by
  intro sz
  refine mStart (cc := cX4_turn) (maxL := 7) (ret := (some .int)) (own := RX4) (by decide) rfl rfl (Nat.le_of_ble_eq_true rfl) (lv := [(0, .ref (a 0)), (1, .int p1), (2, .int p2), (3, .int p3)]) rfl ?_
  intro p e s m args below meth c A ls Q H locs CF hr hlocks hK hP hD hS hA hAe hl hQ
  obtain ⟨hx, hb, hml, hown, hts⟩ := id CF
  have f9 := hts (.fieldLink RX4 9 "MendAnothersBreakingModel" "s" "[I") (List.mem_of_getElem? (i := 1) rfl)
  have i4 : ∀ w ∈ wsX40, w ∈ wsX4_turn := fun w h => List.mem_cons_of_mem _ (List.mem_append_right _ h)
  unfold M_X4_turn at h
  refine lv_aload_n hx hb dX4_turn_0 rfl (lv_at hl 0 rfl) ?_
  refine lv_iload_n hx hb dX4_turn_1 rfl (lv_at hl 1 rfl) ?_
  obtain ⟨r2, q2, h⟩ := bnd1_inv h
  refine kVI (n := 1) (As := [.int p1]) (rest := []) CF hl hK hP hD hS hA (c_X4_isThing l D cI a ss mm im wa hi le ro re lm rm pl nu gi bg bm sd p1 r2 q2) gX4_turn_X4_isThing rfl dX4_turn_2 (by decide +kernel) ⟨⟨rfl, rfl⟩, ⟨Nat.le_of_ble_eq_true rfl, Nat.le_of_ble_eq_true rfl⟩, Nat.zero_le _, Nat.zero_le _⟩ (JN.whole rfl) 0 rfl ⟨rfl, rfl⟩ rfl rfl (Nat.le_of_ble_eq_true rfl) (fun H locs hP hD hS => ?_)
  replace hP : va_P D vwCl (cM a cI ss mm im wa hi le ro re lm rm pl nu gi bg bm sd) H := hP
  replace hD : va_D A (cM a cI ss mm im wa hi le ro re lm rm pl nu gi bg bm sd) := hD
  refine lv_if_ne (tgt := 12) hx hb dX4_turn_5 (by decide) (fun c5 => ?_) (fun c5 => ?_)
  · replace h := fx_ite_f c5 h
    refine lv_iload_n hx hb dX4_turn_12 rfl (lv_at hl 2 rfl) ?_
    refine lv_iconst (v := 0) hx hb dX4_turn_13 (by decide) ?_
    refine lv_iconst (v := 5) hx hb dX4_turn_14 (by decide) ?_
    obtain ⟨r15, q15, h⟩ := bnd1_inv h
    refine kSI (n := 3) (As := [.int p2, .int (0 : Int32), .int (5 : Int32)]) (rest := []) CF hl hK hP hD hS hA (c_X4_isIn l D cI   p2 (0 : Int32) (5 : Int32) r15 q15) gX4_turn_X4_isIn rfl dX4_turn_15 (by decide +kernel) ⟨⟨rfl, rfl⟩, ⟨Nat.le_of_ble_eq_true rfl, Nat.le_of_ble_eq_true rfl⟩, Nat.zero_le _, Nat.zero_le _⟩ (JN.ro [] rfl rfl) rfl rfl (Nat.le_of_ble_eq_true rfl) (fun H locs hP hD hS => ?_)
    refine lv_if_ne (tgt := 26) hx hb dX4_turn_18 (by decide) (fun c18 => ?_) (fun c18 => ?_)
    · replace h := fx_ite_f c18 h
      refine lv_iload_n hx hb dX4_turn_26 rfl (lv_at hl 3 rfl) ?_
      refine lv_bipush (v := 9) hx hb dX4_turn_27 (by decide) ?_
      obtain ⟨r29, q29, h⟩ := bnd1_inv h
      refine kSI (n := 2) (As := [.int p3, .int (9 : Int32)]) (rest := []) CF hl hK hP hD hS hA (c_X4_wrongBy l D cI   p3 (9 : Int32) r29 q29) gX4_turn_X4_wrongBy rfl dX4_turn_29 (by decide +kernel) ⟨⟨rfl, rfl⟩, ⟨Nat.le_of_ble_eq_true rfl, Nat.le_of_ble_eq_true rfl⟩, Nat.zero_le _, Nat.zero_le _⟩ (JN.ro [] rfl rfl) rfl rfl (Nat.le_of_ble_eq_true rfl) (fun H locs hP hD hS => ?_)
      refine lv_istore (lv' := [(4, .int r29), (0, .ref (a 0)), (1, .int p1), (2, .int p2), (3, .int p3)]) hx hb dX4_turn_32 hl (by decide) rfl (fun ls hl => ?_)
      refine lv_iload hx hb dX4_turn_34 (lv_at hl 0 rfl) ?_
      refine lv_if_eq (tgt := 46) hx hb dX4_turn_36 (by decide) (fun c36 => ?_) (fun c36 => ?_)
      · replace h := fx_ite_t c36 h
        refine lv_iload_n hx hb dX4_turn_46 rfl (lv_at hl 2 rfl) ?_
        obtain ⟨r47, q47, h⟩ := bnd1_inv h
        refine kSI (n := 1) (As := [.int p1]) (rest := []) CF hl hK hP hD hS hA (c_X4_ofT l D cI   p1 r47 q47) gX4_turn_X4_ofT rfl dX4_turn_47 (by decide +kernel) ⟨⟨rfl, rfl⟩, ⟨Nat.le_of_ble_eq_true rfl, Nat.le_of_ble_eq_true rfl⟩, Nat.zero_le _, Nat.zero_le _⟩ (JN.ro [] rfl rfl) rfl rfl (Nat.le_of_ble_eq_true rfl) (fun H locs hP hD hS => ?_)
        refine lv_istore (lv' := [(5, .int r47), (4, .int r29), (0, .ref (a 0)), (1, .int p1), (2, .int p2), (3, .int p3)]) hx hb dX4_turn_50 hl (by decide) rfl (fun ls hl => ?_)
        refine lv_bipush (v := 10) hx hb dX4_turn_52 (by decide) ?_
        refine lv_aload_n hx hb dX4_turn_54 rfl (lv_at hl 2 rfl) ?_
        refine va_get (D := D) (ci := 4) (v := .ref (a 1)) (C := RX4) (T := TX4) (N := 16) hx hb hts i4 hown hK hP 0 rfl rfl 0 (by decide) f9 (fun _ h9 => h9) rfl dX4_turn_55 ?_
        refine lv_iload hx hb dX4_turn_58 (lv_at hl 0 rfl) ?_
        refine lv_iconst (v := 0) hx hb dX4_turn_60 (by decide) ?_
        refine lv_iadd hx hb dX4_turn_61 ?_
        obtain ⟨g62, h⟩ := chk_inv h
        refine va_iald (n := 61) (f := ss) hx hb hK hP 1 0 rfl rfl g62 dX4_turn_62 ?_
        refine lv_imul hx hb dX4_turn_63 ?_
        refine lv_aload_n hx hb dX4_turn_64 rfl (lv_at hl 2 rfl) ?_
        refine va_get (D := D) (ci := 4) (v := .ref (a 1)) (C := RX4) (T := TX4) (N := 16) hx hb hts i4 hown hK hP 0 rfl rfl 0 (by decide) f9 (fun _ h9 => h9) rfl dX4_turn_65 ?_
        refine lv_iload hx hb dX4_turn_68 (lv_at hl 0 rfl) ?_
        refine lv_iconst (v := 1) hx hb dX4_turn_70 (by decide) ?_
        refine lv_iadd hx hb dX4_turn_71 ?_
        obtain ⟨g72, h⟩ := chk_inv h
        refine va_iald (n := 61) (f := ss) hx hb hK hP 1 0 rfl rfl g72 dX4_turn_72 ?_
        refine lv_iadd hx hb dX4_turn_73 ?_
        refine lv_istore (lv' := [(6, .int (((10 : Int32) * (ss (Int32.toNatClampNeg (r47 + (0 : Int32))))) + (ss (Int32.toNatClampNeg (r47 + (1 : Int32)))))), (5, .int r47), (4, .int r29), (0, .ref (a 0)), (1, .int p1), (2, .int p2), (3, .int p3)]) hx hb dX4_turn_74 hl (by decide) rfl (fun ls hl => ?_)
        refine lv_aload_n hx hb dX4_turn_76 rfl (lv_at hl 3 rfl) ?_
        refine va_get (D := D) (ci := 4) (v := .ref (a 1)) (C := RX4) (T := TX4) (N := 16) hx hb hts i4 hown hK hP 0 rfl rfl 0 (by decide) f9 (fun _ h9 => h9) rfl dX4_turn_77 ?_
        refine lv_iload hx hb dX4_turn_80 (lv_at hl 1 rfl) ?_
        refine lv_iconst (v := 0) hx hb dX4_turn_82 (by decide) ?_
        refine lv_iadd hx hb dX4_turn_83 ?_
        refine lv_iload_n hx hb dX4_turn_84 rfl (lv_at hl 5 rfl) ?_
        obtain ⟨g85, h⟩ := chk_inv h
        refine va_iast (n := 61) (f := ss) hx hb hK hP hD hS 1 0 rfl rfl g85 dX4_turn_85 (fun H locs hP hD hS => ?_)
        replace hP : va_P D vwCl (cM a cI (upd ss (Int32.toNatClampNeg (r47 + (0 : Int32))) p2) mm im wa hi le ro re lm rm pl nu gi bg bm sd) H := hP
        replace hD : va_D A (cM a cI (upd ss (Int32.toNatClampNeg (r47 + (0 : Int32))) p2) mm im wa hi le ro re lm rm pl nu gi bg bm sd) := hD
        refine lv_aload_n hx hb dX4_turn_86 rfl (lv_at hl 3 rfl) ?_
        refine va_get (D := D) (ci := 4) (v := .ref (a 1)) (C := RX4) (T := TX4) (N := 16) hx hb hts i4 hown hK hP 0 rfl rfl 0 (by decide) f9 (fun _ h9 => h9) rfl dX4_turn_87 ?_
        refine lv_iload hx hb dX4_turn_90 (lv_at hl 1 rfl) ?_
        refine lv_iconst (v := 1) hx hb dX4_turn_92 (by decide) ?_
        refine lv_iadd hx hb dX4_turn_93 ?_
        refine lv_iload_n hx hb dX4_turn_94 rfl (lv_at hl 6 rfl) ?_
        obtain ⟨g95, h⟩ := chk_inv h
        refine va_iast (n := 61) (f := (upd ss (Int32.toNatClampNeg (r47 + (0 : Int32))) p2)) hx hb hK hP hD hS 1 0 rfl rfl g95 dX4_turn_95 (fun H locs hP hD hS => ?_)
        replace hP : va_P D vwCl (cM a cI (upd (upd ss (Int32.toNatClampNeg (r47 + (0 : Int32))) p2) (Int32.toNatClampNeg (r47 + (1 : Int32))) p3) mm im wa hi le ro re lm rm pl nu gi bg bm sd) H := hP
        replace hD : va_D A (cM a cI (upd (upd ss (Int32.toNatClampNeg (r47 + (0 : Int32))) p2) (Int32.toNatClampNeg (r47 + (1 : Int32))) p3) mm im wa hi le ro re lm rm pl nu gi bg bm sd) := hD
        refine lv_iload hx hb dX4_turn_96 (lv_at hl 0 rfl) ?_
        obtain ⟨rfl, rfl, rfl⟩ := rtv3 h
        exact rI hQ hx hb hr hlocks hAe hP hS rfl rfl dX4_turn_98
      · replace h := fx_ite_f c36 h
        refine lv_aload_n hx hb dX4_turn_39 rfl (lv_at hl 1 rfl) ?_
        refine lv_iload hx hb dX4_turn_40 (lv_at hl 0 rfl) ?_
        obtain ⟨r42, u42_re, q42, h⟩ := bnd2_inv h
        refine kVI (n := 1) (As := [.int r29]) (rest := []) CF hl hK hP hD hS hA (c_X4_no l D cI a ss mm im wa hi le ro re lm rm pl nu gi bg bm sd r29 r42 u42_re q42) gX4_turn_X4_no rfl dX4_turn_42 (by decide +kernel) ⟨⟨rfl, rfl⟩, ⟨Nat.le_of_ble_eq_true rfl, Nat.le_of_ble_eq_true rfl⟩, Nat.zero_le _, Nat.zero_le _⟩ (JN.whole (w1 := (cM a cI ss mm im wa hi le ro u42_re lm rm pl nu gi bg bm sd)) rfl) 0 rfl ⟨rfl, rfl⟩ rfl rfl (Nat.le_of_ble_eq_true rfl) (fun H locs hP hD hS => ?_)
        replace hP : va_P D vwCl (cM a cI ss mm im wa hi le ro u42_re lm rm pl nu gi bg bm sd) H := hP
        replace hD : va_D A (cM a cI ss mm im wa hi le ro u42_re lm rm pl nu gi bg bm sd) := hD
        obtain ⟨rfl, rfl, rfl⟩ := rtv3 h
        exact rI hQ hx hb hr hlocks hAe hP hS rfl rfl dX4_turn_45
    · replace h := fx_ite_t c18 h
      refine lv_bipush (v := (-2)) hx hb dX4_turn_21 (by decide) ?_
      refine lv_goto (tgt := 32) hx hb dX4_turn_23 (by decide) ?_
      refine lv_istore (lv' := [(4, .int (-2 : Int32)), (0, .ref (a 0)), (1, .int p1), (2, .int p2), (3, .int p3)]) hx hb dX4_turn_32 hl (by decide) rfl (fun ls hl => ?_)
      refine lv_iload hx hb dX4_turn_34 (lv_at hl 0 rfl) ?_
      refine lv_if_eq (tgt := 46) hx hb dX4_turn_36 (by decide) (fun c9 => absurd c9 (by decide)) (fun _ => ?_)
      refine lv_aload_n hx hb dX4_turn_39 rfl (lv_at hl 1 rfl) ?_
      refine lv_iload hx hb dX4_turn_40 (lv_at hl 0 rfl) ?_
      obtain ⟨r42, u42_re, q42, h⟩ := bnd2_inv h
      refine kVI (n := 1) (As := [.int (-2 : Int32)]) (rest := []) CF hl hK hP hD hS hA (c_X4_no l D cI a ss mm im wa hi le ro re lm rm pl nu gi bg bm sd (-2 : Int32) r42 u42_re q42) gX4_turn_X4_no rfl dX4_turn_42 (by decide +kernel) ⟨⟨rfl, rfl⟩, ⟨Nat.le_of_ble_eq_true rfl, Nat.le_of_ble_eq_true rfl⟩, Nat.zero_le _, Nat.zero_le _⟩ (JN.whole (w1 := (cM a cI ss mm im wa hi le ro u42_re lm rm pl nu gi bg bm sd)) rfl) 0 rfl ⟨rfl, rfl⟩ rfl rfl (Nat.le_of_ble_eq_true rfl) (fun H locs hP hD hS => ?_)
      replace hP : va_P D vwCl (cM a cI ss mm im wa hi le ro u42_re lm rm pl nu gi bg bm sd) H := hP
      replace hD : va_D A (cM a cI ss mm im wa hi le ro u42_re lm rm pl nu gi bg bm sd) := hD
      obtain ⟨rfl, rfl, rfl⟩ := rtv3 h
      exact rI hQ hx hb hr hlocks hAe hP hS rfl rfl dX4_turn_45
  · replace h := fx_ite_t c5 h
    refine lv_iconst (v := (-1)) hx hb dX4_turn_8 (by decide) ?_
    refine lv_goto (tgt := 32) hx hb dX4_turn_9 (by decide) ?_
    refine lv_istore (lv' := [(4, .int (-1 : Int32)), (0, .ref (a 0)), (1, .int p1), (2, .int p2), (3, .int p3)]) hx hb dX4_turn_32 hl (by decide) rfl (fun ls hl => ?_)
    refine lv_iload hx hb dX4_turn_34 (lv_at hl 0 rfl) ?_
    refine lv_if_eq (tgt := 46) hx hb dX4_turn_36 (by decide) (fun c9 => absurd c9 (by decide)) (fun _ => ?_)
    refine lv_aload_n hx hb dX4_turn_39 rfl (lv_at hl 1 rfl) ?_
    refine lv_iload hx hb dX4_turn_40 (lv_at hl 0 rfl) ?_
    obtain ⟨r42, u42_re, q42, h⟩ := bnd2_inv h
    refine kVI (n := 1) (As := [.int (-1 : Int32)]) (rest := []) CF hl hK hP hD hS hA (c_X4_no l D cI a ss mm im wa hi le ro re lm rm pl nu gi bg bm sd (-1 : Int32) r42 u42_re q42) gX4_turn_X4_no rfl dX4_turn_42 (by decide +kernel) ⟨⟨rfl, rfl⟩, ⟨Nat.le_of_ble_eq_true rfl, Nat.le_of_ble_eq_true rfl⟩, Nat.zero_le _, Nat.zero_le _⟩ (JN.whole (w1 := (cM a cI ss mm im wa hi le ro u42_re lm rm pl nu gi bg bm sd)) rfl) 0 rfl ⟨rfl, rfl⟩ rfl rfl (Nat.le_of_ble_eq_true rfl) (fun H locs hP hD hS => ?_)
    replace hP : va_P D vwCl (cM a cI ss mm im wa hi le ro u42_re lm rm pl nu gi bg bm sd) H := hP
    replace hD : va_D A (cM a cI ss mm im wa hi le ro u42_re lm rm pl nu gi bg bm sd) := hD
    obtain ⟨rfl, rfl, rfl⟩ := rtv3 h
    exact rI hQ hx hb hr hlocks hAe hP hS rfl rfl dX4_turn_45
/-! X4_days -/
set_option maxHeartbeats 4000000 in
set_option maxRecDepth 100000 in
theorem c_X4_days (l : Launch) (D : va_G) (cI : ClassId) (a : Nat → Nat) (ss : (Nat → Int32)) (mm : (Nat → Int32)) (im : (Nat → Int32)) (wa : (Nat → Int32)) (hi : Int32) (le : (Nat → Int32)) (ro : (Nat → Int32)) (re : (Nat → Int32)) (lm : Int32) (rm : Int32) (pl : Int32) (nu : (Nat → Int32)) (gi : (Nat → Int32)) (bg : (Nat → Int32)) (bm : Int32) (sd : Int32) (p1 : Int32) (res : Int32) (u_ss : (Nat → Int32)) (u_re : (Nat → Int32)) (h : M_X4_days ss re p1 = some (res, u_ss, u_re)) : mI l yX4_days wsX4_days { frames := 7, cells := 0, slots := 0, locals := 154 } D cI [.ref (a 0), .int p1] (cM a cI ss mm im wa hi le ro re lm rm pl nu gi bg bm sd) (cM a cI u_ss mm im wa hi le ro u_re lm rm pl nu gi bg bm sd) res := by
  intro sz
  refine mStart (cc := cX4_days) (maxL := 2) (ret := (some .int)) (own := RX4) (by decide) rfl rfl (Nat.le_of_ble_eq_true rfl) (lv := [(0, .ref (a 0)), (1, .int p1)]) rfl ?_
  intro p e s m args below meth c A ls Q H locs CF hr hlocks hK hP hD hS hA hAe hl hQ
  obtain ⟨hx, hb, hml, hown, hts⟩ := id CF
  have f9 := hts (.fieldLink RX4 9 "MendAnothersBreakingModel" "s" "[I") (List.mem_of_getElem? (i := 1) rfl)
  have i4 : ∀ w ∈ wsX40, w ∈ wsX4_days := fun w h => List.mem_cons_of_mem _ (List.mem_append_right _ h)
  unfold M_X4_days at h
  refine lv_iload_n hx hb dX4_days_0 rfl (lv_at hl 1 rfl) ?_
  refine lv_iconst (v := 1) hx hb dX4_days_1 (by decide) ?_
  refine lv_icmp_ge (tgt := 12) hx hb dX4_days_2 (by decide) (fun c2 => ?_) (fun c2 => ?_)
  · replace h := fx_ite_t c2 h
    refine lv_iload_n hx hb dX4_days_12 rfl (lv_at hl 1 rfl) ?_
    refine lv_bipush (v := 60) hx hb dX4_days_13 (by decide) ?_
    refine lv_icmp_gt (tgt := 32) hx hb dX4_days_15 (by decide) (fun c15 => ?_) (fun c15 => ?_)
    · replace h := fx_ite_t c15 h
      refine lv_aload_n hx hb dX4_days_32 rfl (lv_at hl 0 rfl) ?_
      refine lv_bipush (v := (-6)) hx hb dX4_days_33 (by decide) ?_
      obtain ⟨r35, u35_re, q35, h⟩ := bnd2_inv h
      refine kVI (n := 1) (As := [.int (-6 : Int32)]) (rest := []) CF hl hK hP hD hS hA (c_X4_no l D cI a ss mm im wa hi le ro re lm rm pl nu gi bg bm sd (-6 : Int32) r35 u35_re q35) gX4_days_X4_no rfl dX4_days_35 (by decide +kernel) ⟨⟨rfl, rfl⟩, ⟨Nat.le_of_ble_eq_true rfl, Nat.le_of_ble_eq_true rfl⟩, Nat.zero_le _, Nat.zero_le _⟩ (JN.whole (w1 := (cM a cI ss mm im wa hi le ro u35_re lm rm pl nu gi bg bm sd)) rfl) 0 rfl ⟨rfl, rfl⟩ rfl rfl (Nat.le_of_ble_eq_true rfl) (fun H locs hP hD hS => ?_)
      replace hP : va_P D vwCl (cM a cI ss mm im wa hi le ro u35_re lm rm pl nu gi bg bm sd) H := hP
      replace hD : va_D A (cM a cI ss mm im wa hi le ro u35_re lm rm pl nu gi bg bm sd) := hD
      obtain ⟨rfl, rfl, rfl⟩ := rtv3 h
      exact rI hQ hx hb hr hlocks hAe hP hS rfl rfl dX4_days_38
    · replace h := fx_ite_f c15 h
      refine lv_aload_n hx hb dX4_days_18 rfl (lv_at hl 0 rfl) ?_
      refine va_get (D := D) (ci := 4) (v := .ref (a 1)) (C := RX4) (T := TX4) (N := 16) hx hb hts i4 hown hK hP 0 rfl rfl 0 (by decide) f9 (fun _ h9 => h9) rfl dX4_days_19 ?_
      refine lv_iconst (v := 2) hx hb dX4_days_22 (by decide) ?_
      refine ald (n := 61) (f := ss) (k := 2) hx hb hK hP 1 0 rfl rfl (fx_lit rfl) rfl dX4_days_23 ?_
      refine lv_iload_n hx hb dX4_days_24 rfl (lv_at hl 1 rfl) ?_
      refine lv_iadd hx hb dX4_days_25 ?_
      refine lv_sipush (v := 999) hx hb dX4_days_26 (by decide) ?_
      refine lv_icmp_le (tgt := 39) hx hb dX4_days_29 (by decide) (fun c29 => ?_) (fun c29 => ?_)
      · replace h := fx_ite_t c29 h
        refine lv_aload_n hx hb dX4_days_39 rfl (lv_at hl 0 rfl) ?_
        refine va_get (D := D) (ci := 4) (v := .ref (a 1)) (C := RX4) (T := TX4) (N := 16) hx hb hts i4 hown hK hP 0 rfl rfl 0 (by decide) f9 (fun _ h9 => h9) rfl dX4_days_40 ?_
        refine lv_iload_n hx hb dX4_days_43 rfl (lv_at hl 1 rfl) ?_
        obtain ⟨u44_ss, q44, h⟩ := bnd1_inv h
        refine kSV (n := 2) (As := [.ref (a 1), .int p1]) (rest := []) CF hl hK hP hD hS hA (c_X4_daysOn l D cI (a 1) ss p1 u44_ss q44) gX4_days_X4_daysOn rfl dX4_days_44 (by decide +kernel) ⟨⟨rfl, rfl⟩, ⟨Nat.le_of_ble_eq_true rfl, Nat.le_of_ble_eq_true rfl⟩, Nat.zero_le _, Nat.zero_le _⟩ (JN.sub (wst' := (cM a cI u44_ss mm im wa hi le ro re lm rm pl nu gi bg bm sd)) [1] rfl rfl rfl rfl) rfl rfl (Nat.le_of_ble_eq_true rfl) (fun H locs hP hD hS => ?_)
        replace hP : va_P D vwCl (cM a cI u44_ss mm im wa hi le ro re lm rm pl nu gi bg bm sd) H := hP
        replace hD : va_D A (cM a cI u44_ss mm im wa hi le ro re lm rm pl nu gi bg bm sd) := hD
        refine lv_aload_n hx hb dX4_days_47 rfl (lv_at hl 0 rfl) ?_
        refine va_get (D := D) (ci := 4) (v := .ref (a 1)) (C := RX4) (T := TX4) (N := 16) hx hb hts i4 hown hK hP 0 rfl rfl 0 (by decide) f9 (fun _ h9 => h9) rfl dX4_days_48 ?_
        obtain ⟨r51, q51, h⟩ := bnd1_inv h
        refine kSI (n := 1) (As := [.ref (a 1)]) (rest := []) CF hl hK hP hD hS hA (c_X4_wholeSet l D cI (a 1) u44_ss  r51 q51) gX4_days_X4_wholeSet rfl dX4_days_51 (by decide +kernel) ⟨⟨rfl, rfl⟩, ⟨Nat.le_of_ble_eq_true rfl, Nat.le_of_ble_eq_true rfl⟩, Nat.zero_le _, Nat.zero_le _⟩ (JN.ro [1] rfl rfl) rfl rfl (Nat.le_of_ble_eq_true rfl) (fun H locs hP hD hS => ?_)
        obtain ⟨r54, q54, h⟩ := bnd1_inv h
        refine kSI (n := 1) (As := [.int r51]) (rest := []) CF hl hK hP hD hS hA (c_X4_bits l D cI   r51 r54 q54) gX4_days_X4_bits rfl dX4_days_54 (by decide +kernel) ⟨⟨rfl, rfl⟩, ⟨Nat.le_of_ble_eq_true rfl, Nat.le_of_ble_eq_true rfl⟩, Nat.zero_le _, Nat.zero_le _⟩ (JN.ro [] rfl rfl) rfl rfl (Nat.le_of_ble_eq_true rfl) (fun H locs hP hD hS => ?_)
        obtain ⟨rfl, rfl, rfl⟩ := rtv3 h
        exact rI hQ hx hb hr hlocks hAe hP hS rfl rfl dX4_days_57
      · replace h := fx_ite_f c29 h
        refine lv_aload_n hx hb dX4_days_32 rfl (lv_at hl 0 rfl) ?_
        refine lv_bipush (v := (-6)) hx hb dX4_days_33 (by decide) ?_
        obtain ⟨r35, u35_re, q35, h⟩ := bnd2_inv h
        refine kVI (n := 1) (As := [.int (-6 : Int32)]) (rest := []) CF hl hK hP hD hS hA (c_X4_no l D cI a ss mm im wa hi le ro re lm rm pl nu gi bg bm sd (-6 : Int32) r35 u35_re q35) gX4_days_X4_no rfl dX4_days_35 (by decide +kernel) ⟨⟨rfl, rfl⟩, ⟨Nat.le_of_ble_eq_true rfl, Nat.le_of_ble_eq_true rfl⟩, Nat.zero_le _, Nat.zero_le _⟩ (JN.whole (w1 := (cM a cI ss mm im wa hi le ro u35_re lm rm pl nu gi bg bm sd)) rfl) 0 rfl ⟨rfl, rfl⟩ rfl rfl (Nat.le_of_ble_eq_true rfl) (fun H locs hP hD hS => ?_)
        replace hP : va_P D vwCl (cM a cI ss mm im wa hi le ro u35_re lm rm pl nu gi bg bm sd) H := hP
        replace hD : va_D A (cM a cI ss mm im wa hi le ro u35_re lm rm pl nu gi bg bm sd) := hD
        obtain ⟨rfl, rfl, rfl⟩ := rtv3 h
        exact rI hQ hx hb hr hlocks hAe hP hS rfl rfl dX4_days_38
  · replace h := fx_ite_f c2 h
    refine lv_aload_n hx hb dX4_days_5 rfl (lv_at hl 0 rfl) ?_
    refine lv_bipush (v := (-4)) hx hb dX4_days_6 (by decide) ?_
    obtain ⟨r8, u8_re, q8, h⟩ := bnd2_inv h
    refine kVI (n := 1) (As := [.int (-4 : Int32)]) (rest := []) CF hl hK hP hD hS hA (c_X4_no l D cI a ss mm im wa hi le ro re lm rm pl nu gi bg bm sd (-4 : Int32) r8 u8_re q8) gX4_days_X4_no rfl dX4_days_8 (by decide +kernel) ⟨⟨rfl, rfl⟩, ⟨Nat.le_of_ble_eq_true rfl, Nat.le_of_ble_eq_true rfl⟩, Nat.zero_le _, Nat.zero_le _⟩ (JN.whole (w1 := (cM a cI ss mm im wa hi le ro u8_re lm rm pl nu gi bg bm sd)) rfl) 0 rfl ⟨rfl, rfl⟩ rfl rfl (Nat.le_of_ble_eq_true rfl) (fun H locs hP hD hS => ?_)
    replace hP : va_P D vwCl (cM a cI ss mm im wa hi le ro u8_re lm rm pl nu gi bg bm sd) H := hP
    replace hD : va_D A (cM a cI ss mm im wa hi le ro u8_re lm rm pl nu gi bg bm sd) := hD
    obtain ⟨rfl, rfl, rfl⟩ := rtv3 h
    exact rI hQ hx hb hr hlocks hAe hP hS rfl rfl dX4_days_11
/-! X4_takes -/
set_option maxHeartbeats 4000000 in
set_option maxRecDepth 100000 in
theorem c_X4_takes (l : Launch) (D : va_G) (cI : ClassId) (a : Nat → Nat) (ss : (Nat → Int32)) (mm : (Nat → Int32)) (im : (Nat → Int32)) (wa : (Nat → Int32)) (hi : Int32) (le : (Nat → Int32)) (ro : (Nat → Int32)) (re : (Nat → Int32)) (lm : Int32) (rm : Int32) (pl : Int32) (nu : (Nat → Int32)) (gi : (Nat → Int32)) (bg : (Nat → Int32)) (bm : Int32) (sd : Int32) (p1 : Int32) (u_mm : (Nat → Int32)) (h : M_X4_takes ss mm p1 = some u_mm) : mV l yX4_takes wsX4_takes { frames := 7, cells := 0, slots := 0, locals := 154 } D cI [.ref (a 0), .int p1] (cM a cI ss mm im wa hi le ro re lm rm pl nu gi bg bm sd) (cM a cI ss u_mm im wa hi le ro re lm rm pl nu gi bg bm sd) := by
  intro sz
  refine mStart (cc := cX4_takes) (maxL := 2) (ret := none) (own := RX4) (by decide) rfl rfl (Nat.le_of_ble_eq_true rfl) (lv := [(0, .ref (a 0)), (1, .int p1)]) rfl ?_
  intro p e s m args below meth c A ls Q H locs CF hr hlocks hK hP hD hS hA hAe hl hQ
  obtain ⟨hx, hb, hml, hown, hts⟩ := id CF
  have f9 := hts (.fieldLink RX4 9 "MendAnothersBreakingModel" "s" "[I") (List.mem_of_getElem? (i := 1) rfl)
  have f13 := hts (.fieldLink RX4 13 "MendAnothersBreakingModel" "m" "[I") (List.mem_of_getElem? (i := 2) rfl)
  have i4 : ∀ w ∈ wsX40, w ∈ wsX4_takes := fun w h => List.mem_cons_of_mem _ (List.mem_append_right _ h)
  unfold M_X4_takes at h
  refine lv_aload_n hx hb dX4_takes_0 rfl (lv_at hl 0 rfl) ?_
  refine va_get (D := D) (ci := 4) (v := .ref (a 1)) (C := RX4) (T := TX4) (N := 16) hx hb hts i4 hown hK hP 0 rfl rfl 0 (by decide) f9 (fun _ h9 => h9) rfl dX4_takes_1 ?_
  refine lv_aload_n hx hb dX4_takes_4 rfl (lv_at hl 0 rfl) ?_
  refine va_get (D := D) (ci := 4) (v := .ref (a 2)) (C := RX4) (T := TX4) (N := 16) hx hb hts i4 hown hK hP 0 rfl rfl 1 (by decide) f13 (fun _ h9 => h9) rfl dX4_takes_5 ?_
  obtain ⟨u8_mm, q8, h⟩ := bnd1_inv h
  refine kSV (n := 2) (As := [.ref (a 1), .ref (a 2)]) (rest := []) CF hl hK hP hD hS hA (c_X4_copies l D cI (a 1) (a 2) ss mm  u8_mm q8) gX4_takes_X4_copies rfl dX4_takes_8 (by decide +kernel) ⟨⟨rfl, rfl⟩, ⟨Nat.le_of_ble_eq_true rfl, Nat.le_of_ble_eq_true rfl⟩, Nat.zero_le _, Nat.zero_le _⟩ (JN.sub (wst' := (cM a cI ss u8_mm im wa hi le ro re lm rm pl nu gi bg bm sd)) [1, 2] rfl rfl rfl rfl) rfl rfl (Nat.le_of_ble_eq_true rfl) (fun H locs hP hD hS => ?_)
  replace hP : va_P D vwCl (cM a cI ss u8_mm im wa hi le ro re lm rm pl nu gi bg bm sd) H := hP
  replace hD : va_D A (cM a cI ss u8_mm im wa hi le ro re lm rm pl nu gi bg bm sd) := hD
  refine lv_aload_n hx hb dX4_takes_11 rfl (lv_at hl 0 rfl) ?_
  refine va_get (D := D) (ci := 4) (v := .ref (a 2)) (C := RX4) (T := TX4) (N := 16) hx hb hts i4 hown hK hP 0 rfl rfl 1 (by decide) f13 (fun _ h9 => h9) rfl dX4_takes_12 ?_
  refine lv_iload_n hx hb dX4_takes_15 rfl (lv_at hl 1 rfl) ?_
  obtain ⟨u16_mm, q16, h⟩ := bnd1_inv h
  refine kSV (n := 2) (As := [.ref (a 2), .int p1]) (rest := []) CF hl hK hP hD hS hA (c_X4_daysOn l D cI (a 2) u8_mm p1 u16_mm q16) gX4_takes_X4_daysOn rfl dX4_takes_16 (by decide +kernel) ⟨⟨rfl, rfl⟩, ⟨Nat.le_of_ble_eq_true rfl, Nat.le_of_ble_eq_true rfl⟩, Nat.zero_le _, Nat.zero_le _⟩ (JN.sub (wst' := (cM a cI ss u16_mm im wa hi le ro re lm rm pl nu gi bg bm sd)) [2] rfl rfl rfl rfl) rfl rfl (Nat.le_of_ble_eq_true rfl) (fun H locs hP hD hS => ?_)
  replace hP : va_P D vwCl (cM a cI ss u16_mm im wa hi le ro re lm rm pl nu gi bg bm sd) H := hP
  replace hD : va_D A (cM a cI ss u16_mm im wa hi le ro re lm rm pl nu gi bg bm sd) := hD
  obtain rfl := rtv1 h
  exact rV hQ hx hb hr hlocks hAe hP hS dX4_takes_19
/-! X4_wholeThen -/
set_option maxHeartbeats 4000000 in
set_option maxRecDepth 100000 in
theorem c_X4_wholeThen (l : Launch) (D : va_G) (cI : ClassId) (a : Nat → Nat) (ss : (Nat → Int32)) (mm : (Nat → Int32)) (im : (Nat → Int32)) (wa : (Nat → Int32)) (hi : Int32) (le : (Nat → Int32)) (ro : (Nat → Int32)) (re : (Nat → Int32)) (lm : Int32) (rm : Int32) (pl : Int32) (nu : (Nat → Int32)) (gi : (Nat → Int32)) (bg : (Nat → Int32)) (bm : Int32) (sd : Int32) (p1 : Int32) (res : Int32) (u_mm : (Nat → Int32)) (u_re : (Nat → Int32)) (h : M_X4_wholeThen ss mm re p1 = some (res, u_mm, u_re)) : mI l yX4_wholeThen wsX4_wholeThen { frames := 8, cells := 0, slots := 0, locals := 175 } D cI [.ref (a 0), .int p1] (cM a cI ss mm im wa hi le ro re lm rm pl nu gi bg bm sd) (cM a cI ss u_mm im wa hi le ro u_re lm rm pl nu gi bg bm sd) res := by
  intro sz
  refine mStart (cc := cX4_wholeThen) (maxL := 3) (ret := (some .int)) (own := RX4) (by decide) rfl rfl (Nat.le_of_ble_eq_true rfl) (lv := [(0, .ref (a 0)), (1, .int p1)]) rfl ?_
  intro p e s m args below meth c A ls Q H locs CF hr hlocks hK hP hD hS hA hAe hl hQ
  obtain ⟨hx, hb, hml, hown, hts⟩ := id CF
  have f13 := hts (.fieldLink RX4 13 "MendAnothersBreakingModel" "m" "[I") (List.mem_of_getElem? (i := 1) rfl)
  have i4 : ∀ w ∈ wsX40, w ∈ wsX4_wholeThen := fun w h => List.mem_cons_of_mem _ (List.mem_append_right _ h)
  unfold M_X4_wholeThen at h
  refine lv_iload_n hx hb dX4_wholeThen_0 rfl (lv_at hl 1 rfl) ?_
  refine lv_bipush (v := 99) hx hb dX4_wholeThen_1 (by decide) ?_
  obtain ⟨r3, q3, h⟩ := bnd1_inv h
  refine kSI (n := 2) (As := [.int p1, .int (99 : Int32)]) (rest := []) CF hl hK hP hD hS hA (c_X4_wrongBy l D cI   p1 (99 : Int32) r3 q3) gX4_wholeThen_X4_wrongBy rfl dX4_wholeThen_3 (by decide +kernel) ⟨⟨rfl, rfl⟩, ⟨Nat.le_of_ble_eq_true rfl, Nat.le_of_ble_eq_true rfl⟩, Nat.zero_le _, Nat.zero_le _⟩ (JN.ro [] rfl rfl) rfl rfl (Nat.le_of_ble_eq_true rfl) (fun H locs hP hD hS => ?_)
  refine lv_istore_n (lv' := [(2, .int r3), (0, .ref (a 0)), (1, .int p1)]) hx hb dX4_wholeThen_6 rfl hl (by decide) rfl (fun ls hl => ?_)
  refine lv_iload_n hx hb dX4_wholeThen_7 rfl (lv_at hl 0 rfl) ?_
  refine lv_if_eq (tgt := 17) hx hb dX4_wholeThen_8 (by decide) (fun c8 => ?_) (fun c8 => ?_)
  · replace h := fx_ite_t c8 h
    refine lv_aload_n hx hb dX4_wholeThen_17 rfl (lv_at hl 1 rfl) ?_
    refine lv_iload_n hx hb dX4_wholeThen_18 rfl (lv_at hl 2 rfl) ?_
    obtain ⟨u19_mm, q19, h⟩ := bnd1_inv h
    refine kVV (n := 1) (As := [.int p1]) (rest := []) CF hl hK hP hD hS hA (c_X4_takes l D cI a ss mm im wa hi le ro re lm rm pl nu gi bg bm sd p1 u19_mm q19) gX4_wholeThen_X4_takes rfl dX4_wholeThen_19 (by decide +kernel) ⟨⟨rfl, rfl⟩, ⟨Nat.le_of_ble_eq_true rfl, Nat.le_of_ble_eq_true rfl⟩, Nat.zero_le _, Nat.zero_le _⟩ (JN.whole (w1 := (cM a cI ss u19_mm im wa hi le ro re lm rm pl nu gi bg bm sd)) rfl) 0 rfl ⟨rfl, rfl⟩ rfl rfl (Nat.le_of_ble_eq_true rfl) (fun H locs hP hD hS => ?_)
    replace hP : va_P D vwCl (cM a cI ss u19_mm im wa hi le ro re lm rm pl nu gi bg bm sd) H := hP
    replace hD : va_D A (cM a cI ss u19_mm im wa hi le ro re lm rm pl nu gi bg bm sd) := hD
    refine lv_aload_n hx hb dX4_wholeThen_22 rfl (lv_at hl 1 rfl) ?_
    refine va_get (D := D) (ci := 4) (v := .ref (a 2)) (C := RX4) (T := TX4) (N := 16) hx hb hts i4 hown hK hP 0 rfl rfl 1 (by decide) f13 (fun _ h9 => h9) rfl dX4_wholeThen_23 ?_
    obtain ⟨r26, q26, h⟩ := bnd1_inv h
    refine kSI (n := 1) (As := [.ref (a 2)]) (rest := []) CF hl hK hP hD hS hA (c_X4_wholeSet l D cI (a 2) u19_mm  r26 q26) gX4_wholeThen_X4_wholeSet rfl dX4_wholeThen_26 (by decide +kernel) ⟨⟨rfl, rfl⟩, ⟨Nat.le_of_ble_eq_true rfl, Nat.le_of_ble_eq_true rfl⟩, Nat.zero_le _, Nat.zero_le _⟩ (JN.ro [2] rfl rfl) rfl rfl (Nat.le_of_ble_eq_true rfl) (fun H locs hP hD hS => ?_)
    obtain ⟨rfl, rfl, rfl⟩ := rtv3 h
    exact rI hQ hx hb hr hlocks hAe hP hS rfl rfl dX4_wholeThen_29
  · replace h := fx_ite_f c8 h
    refine lv_aload_n hx hb dX4_wholeThen_11 rfl (lv_at hl 1 rfl) ?_
    refine lv_iload_n hx hb dX4_wholeThen_12 rfl (lv_at hl 0 rfl) ?_
    obtain ⟨r13, u13_re, q13, h⟩ := bnd2_inv h
    refine kVI (n := 1) (As := [.int r3]) (rest := []) CF hl hK hP hD hS hA (c_X4_no l D cI a ss mm im wa hi le ro re lm rm pl nu gi bg bm sd r3 r13 u13_re q13) gX4_wholeThen_X4_no rfl dX4_wholeThen_13 (by decide +kernel) ⟨⟨rfl, rfl⟩, ⟨Nat.le_of_ble_eq_true rfl, Nat.le_of_ble_eq_true rfl⟩, Nat.zero_le _, Nat.zero_le _⟩ (JN.whole (w1 := (cM a cI ss mm im wa hi le ro u13_re lm rm pl nu gi bg bm sd)) rfl) 0 rfl ⟨rfl, rfl⟩ rfl rfl (Nat.le_of_ble_eq_true rfl) (fun H locs hP hD hS => ?_)
    replace hP : va_P D vwCl (cM a cI ss mm im wa hi le ro u13_re lm rm pl nu gi bg bm sd) H := hP
    replace hD : va_D A (cM a cI ss mm im wa hi le ro u13_re lm rm pl nu gi bg bm sd) := hD
    obtain ⟨rfl, rfl, rfl⟩ := rtv3 h
    exact rI hQ hx hb hr hlocks hAe hP hS rfl rfl dX4_wholeThen_16
/-! X4_brokenThen -/
set_option maxHeartbeats 4000000 in
set_option maxRecDepth 100000 in
theorem c_X4_brokenThen (l : Launch) (D : va_G) (cI : ClassId) (a : Nat → Nat) (ss : (Nat → Int32)) (mm : (Nat → Int32)) (im : (Nat → Int32)) (wa : (Nat → Int32)) (hi : Int32) (le : (Nat → Int32)) (ro : (Nat → Int32)) (re : (Nat → Int32)) (lm : Int32) (rm : Int32) (pl : Int32) (nu : (Nat → Int32)) (gi : (Nat → Int32)) (bg : (Nat → Int32)) (bm : Int32) (sd : Int32) (p1 : Int32) (p2 : Int32) (res : Int32) (u_mm : (Nat → Int32)) (u_re : (Nat → Int32)) (h : M_X4_brokenThen ss mm re p1 p2 = some (res, u_mm, u_re)) : mI l yX4_brokenThen wsX4_brokenThen { frames := 8, cells := 0, slots := 0, locals := 175 } D cI [.ref (a 0), .int p1, .int p2] (cM a cI ss mm im wa hi le ro re lm rm pl nu gi bg bm sd) (cM a cI ss u_mm im wa hi le ro u_re lm rm pl nu gi bg bm sd) res := by
  intro sz
  refine mStart (cc := cX4_brokenThen) (maxL := 4) (ret := (some .int)) (own := RX4) (by decide) rfl rfl (Nat.le_of_ble_eq_true rfl) (lv := [(0, .ref (a 0)), (1, .int p1), (2, .int p2)]) rfl ?_
  intro p e s m args below meth c A ls Q H locs CF hr hlocks hK hP hD hS hA hAe hl hQ
  obtain ⟨hx, hb, hml, hown, hts⟩ := id CF
  have f13 := hts (.fieldLink RX4 13 "MendAnothersBreakingModel" "m" "[I") (List.mem_of_getElem? (i := 1) rfl)
  have i4 : ∀ w ∈ wsX40, w ∈ wsX4_brokenThen := fun w h => List.mem_cons_of_mem _ (List.mem_append_right _ h)
  unfold M_X4_brokenThen at h
  refine lv_aload_n hx hb dX4_brokenThen_0 rfl (lv_at hl 0 rfl) ?_
  refine lv_iload_n hx hb dX4_brokenThen_1 rfl (lv_at hl 1 rfl) ?_
  obtain ⟨r2, q2, h⟩ := bnd1_inv h
  refine kVI (n := 1) (As := [.int p1]) (rest := []) CF hl hK hP hD hS hA (c_X4_isThing l D cI a ss mm im wa hi le ro re lm rm pl nu gi bg bm sd p1 r2 q2) gX4_brokenThen_X4_isThing rfl dX4_brokenThen_2 (by decide +kernel) ⟨⟨rfl, rfl⟩, ⟨Nat.le_of_ble_eq_true rfl, Nat.le_of_ble_eq_true rfl⟩, Nat.zero_le _, Nat.zero_le _⟩ (JN.whole rfl) 0 rfl ⟨rfl, rfl⟩ rfl rfl (Nat.le_of_ble_eq_true rfl) (fun H locs hP hD hS => ?_)
  replace hP : va_P D vwCl (cM a cI ss mm im wa hi le ro re lm rm pl nu gi bg bm sd) H := hP
  replace hD : va_D A (cM a cI ss mm im wa hi le ro re lm rm pl nu gi bg bm sd) := hD
  refine lv_if_eq (tgt := 17) hx hb dX4_brokenThen_5 (by decide) (fun c5 => ?_) (fun c5 => ?_)
  · replace h := fx_ite_t c5 h
    refine lv_iconst (v := (-1)) hx hb dX4_brokenThen_17 (by decide) ?_
    refine lv_istore_n (lv' := [(3, .int (-1 : Int32)), (0, .ref (a 0)), (1, .int p1), (2, .int p2)]) hx hb dX4_brokenThen_18 rfl hl (by decide) rfl (fun ls hl => ?_)
    refine lv_iload_n hx hb dX4_brokenThen_19 rfl (lv_at hl 0 rfl) ?_
    refine lv_if_eq (tgt := 29) hx hb dX4_brokenThen_20 (by decide) (fun c9 => absurd c9 (by decide)) (fun _ => ?_)
    refine lv_aload_n hx hb dX4_brokenThen_23 rfl (lv_at hl 1 rfl) ?_
    refine lv_iload_n hx hb dX4_brokenThen_24 rfl (lv_at hl 0 rfl) ?_
    obtain ⟨r25, u25_re, q25, h⟩ := bnd2_inv h
    refine kVI (n := 1) (As := [.int (-1 : Int32)]) (rest := []) CF hl hK hP hD hS hA (c_X4_no l D cI a ss mm im wa hi le ro re lm rm pl nu gi bg bm sd (-1 : Int32) r25 u25_re q25) gX4_brokenThen_X4_no rfl dX4_brokenThen_25 (by decide +kernel) ⟨⟨rfl, rfl⟩, ⟨Nat.le_of_ble_eq_true rfl, Nat.le_of_ble_eq_true rfl⟩, Nat.zero_le _, Nat.zero_le _⟩ (JN.whole (w1 := (cM a cI ss mm im wa hi le ro u25_re lm rm pl nu gi bg bm sd)) rfl) 0 rfl ⟨rfl, rfl⟩ rfl rfl (Nat.le_of_ble_eq_true rfl) (fun H locs hP hD hS => ?_)
    replace hP : va_P D vwCl (cM a cI ss mm im wa hi le ro u25_re lm rm pl nu gi bg bm sd) H := hP
    replace hD : va_D A (cM a cI ss mm im wa hi le ro u25_re lm rm pl nu gi bg bm sd) := hD
    obtain ⟨rfl, rfl, rfl⟩ := rtv3 h
    exact rI hQ hx hb hr hlocks hAe hP hS rfl rfl dX4_brokenThen_28
  · replace h := fx_ite_f c5 h
    refine lv_iload_n hx hb dX4_brokenThen_8 rfl (lv_at hl 2 rfl) ?_
    refine lv_bipush (v := 99) hx hb dX4_brokenThen_9 (by decide) ?_
    obtain ⟨r11, q11, h⟩ := bnd1_inv h
    refine kSI (n := 2) (As := [.int p2, .int (99 : Int32)]) (rest := []) CF hl hK hP hD hS hA (c_X4_wrongBy l D cI   p2 (99 : Int32) r11 q11) gX4_brokenThen_X4_wrongBy rfl dX4_brokenThen_11 (by decide +kernel) ⟨⟨rfl, rfl⟩, ⟨Nat.le_of_ble_eq_true rfl, Nat.le_of_ble_eq_true rfl⟩, Nat.zero_le _, Nat.zero_le _⟩ (JN.ro [] rfl rfl) rfl rfl (Nat.le_of_ble_eq_true rfl) (fun H locs hP hD hS => ?_)
    refine lv_goto (tgt := 18) hx hb dX4_brokenThen_14 (by decide) ?_
    refine lv_istore_n (lv' := [(3, .int r11), (0, .ref (a 0)), (1, .int p1), (2, .int p2)]) hx hb dX4_brokenThen_18 rfl hl (by decide) rfl (fun ls hl => ?_)
    refine lv_iload_n hx hb dX4_brokenThen_19 rfl (lv_at hl 0 rfl) ?_
    refine lv_if_eq (tgt := 29) hx hb dX4_brokenThen_20 (by decide) (fun c20 => ?_) (fun c20 => ?_)
    · replace h := fx_ite_t c20 h
      refine lv_aload_n hx hb dX4_brokenThen_29 rfl (lv_at hl 1 rfl) ?_
      refine lv_iload_n hx hb dX4_brokenThen_30 rfl (lv_at hl 3 rfl) ?_
      obtain ⟨u31_mm, q31, h⟩ := bnd1_inv h
      refine kVV (n := 1) (As := [.int p2]) (rest := []) CF hl hK hP hD hS hA (c_X4_takes l D cI a ss mm im wa hi le ro re lm rm pl nu gi bg bm sd p2 u31_mm q31) gX4_brokenThen_X4_takes rfl dX4_brokenThen_31 (by decide +kernel) ⟨⟨rfl, rfl⟩, ⟨Nat.le_of_ble_eq_true rfl, Nat.le_of_ble_eq_true rfl⟩, Nat.zero_le _, Nat.zero_le _⟩ (JN.whole (w1 := (cM a cI ss u31_mm im wa hi le ro re lm rm pl nu gi bg bm sd)) rfl) 0 rfl ⟨rfl, rfl⟩ rfl rfl (Nat.le_of_ble_eq_true rfl) (fun H locs hP hD hS => ?_)
      replace hP : va_P D vwCl (cM a cI ss u31_mm im wa hi le ro re lm rm pl nu gi bg bm sd) H := hP
      replace hD : va_D A (cM a cI ss u31_mm im wa hi le ro re lm rm pl nu gi bg bm sd) := hD
      refine lv_aload_n hx hb dX4_brokenThen_34 rfl (lv_at hl 1 rfl) ?_
      refine va_get (D := D) (ci := 4) (v := .ref (a 2)) (C := RX4) (T := TX4) (N := 16) hx hb hts i4 hown hK hP 0 rfl rfl 1 (by decide) f13 (fun _ h9 => h9) rfl dX4_brokenThen_35 ?_
      refine lv_iload_n hx hb dX4_brokenThen_38 rfl (lv_at hl 2 rfl) ?_
      obtain ⟨r39, q39, h⟩ := bnd1_inv h
      refine kSI (n := 1) (As := [.int p1]) (rest := [.ref (a 2)]) CF hl hK hP hD hS hA (c_X4_ofT l D cI   p1 r39 q39) gX4_brokenThen_X4_ofT rfl dX4_brokenThen_39 (by decide +kernel) ⟨⟨rfl, rfl⟩, ⟨Nat.le_of_ble_eq_true rfl, Nat.le_of_ble_eq_true rfl⟩, Nat.zero_le _, Nat.zero_le _⟩ (JN.ro [] rfl rfl) rfl rfl (Nat.le_of_ble_eq_true rfl) (fun H locs hP hD hS => ?_)
      refine lv_iconst (v := 4) hx hb dX4_brokenThen_42 (by decide) ?_
      refine lv_iadd hx hb dX4_brokenThen_43 ?_
      obtain ⟨g44, h⟩ := chk_inv h
      refine va_iald (n := 61) (f := u31_mm) hx hb hK hP 2 0 rfl rfl g44 dX4_brokenThen_44 ?_
      obtain ⟨rfl, rfl, rfl⟩ := rtv3 h
      exact rI hQ hx hb hr hlocks hAe hP hS rfl rfl dX4_brokenThen_45
    · replace h := fx_ite_f c20 h
      refine lv_aload_n hx hb dX4_brokenThen_23 rfl (lv_at hl 1 rfl) ?_
      refine lv_iload_n hx hb dX4_brokenThen_24 rfl (lv_at hl 0 rfl) ?_
      obtain ⟨r25, u25_re, q25, h⟩ := bnd2_inv h
      refine kVI (n := 1) (As := [.int r11]) (rest := []) CF hl hK hP hD hS hA (c_X4_no l D cI a ss mm im wa hi le ro re lm rm pl nu gi bg bm sd r11 r25 u25_re q25) gX4_brokenThen_X4_no rfl dX4_brokenThen_25 (by decide +kernel) ⟨⟨rfl, rfl⟩, ⟨Nat.le_of_ble_eq_true rfl, Nat.le_of_ble_eq_true rfl⟩, Nat.zero_le _, Nat.zero_le _⟩ (JN.whole (w1 := (cM a cI ss mm im wa hi le ro u25_re lm rm pl nu gi bg bm sd)) rfl) 0 rfl ⟨rfl, rfl⟩ rfl rfl (Nat.le_of_ble_eq_true rfl) (fun H locs hP hD hS => ?_)
      replace hP : va_P D vwCl (cM a cI ss mm im wa hi le ro u25_re lm rm pl nu gi bg bm sd) H := hP
      replace hD : va_D A (cM a cI ss mm im wa hi le ro u25_re lm rm pl nu gi bg bm sd) := hD
      obtain ⟨rfl, rfl, rfl⟩ := rtv3 h
      exact rI hQ hx hb hr hlocks hAe hP hS rfl rfl dX4_brokenThen_28
/-! X4_mendedThen -/
set_option maxHeartbeats 4000000 in
set_option maxRecDepth 100000 in
theorem c_X4_mendedThen (l : Launch) (D : va_G) (cI : ClassId) (a : Nat → Nat) (ss : (Nat → Int32)) (mm : (Nat → Int32)) (im : (Nat → Int32)) (wa : (Nat → Int32)) (hi : Int32) (le : (Nat → Int32)) (ro : (Nat → Int32)) (re : (Nat → Int32)) (lm : Int32) (rm : Int32) (pl : Int32) (nu : (Nat → Int32)) (gi : (Nat → Int32)) (bg : (Nat → Int32)) (bm : Int32) (sd : Int32) (p1 : Int32) (res : Int32) (u_mm : (Nat → Int32)) (u_re : (Nat → Int32)) (h : M_X4_mendedThen ss mm re p1 = some (res, u_mm, u_re)) : mI l yX4_mendedThen wsX4_mendedThen { frames := 8, cells := 0, slots := 0, locals := 175 } D cI [.ref (a 0), .int p1] (cM a cI ss mm im wa hi le ro re lm rm pl nu gi bg bm sd) (cM a cI ss u_mm im wa hi le ro u_re lm rm pl nu gi bg bm sd) res := by
  intro sz
  refine mStart (cc := cX4_mendedThen) (maxL := 3) (ret := (some .int)) (own := RX4) (by decide) rfl rfl (Nat.le_of_ble_eq_true rfl) (lv := [(0, .ref (a 0)), (1, .int p1)]) rfl ?_
  intro p e s m args below meth c A ls Q H locs CF hr hlocks hK hP hD hS hA hAe hl hQ
  obtain ⟨hx, hb, hml, hown, hts⟩ := id CF
  have f9 := hts (.fieldLink RX4 9 "MendAnothersBreakingModel" "s" "[I") (List.mem_of_getElem? (i := 2) rfl)
  have f13 := hts (.fieldLink RX4 13 "MendAnothersBreakingModel" "m" "[I") (List.mem_of_getElem? (i := 1) rfl)
  have i4 : ∀ w ∈ wsX40, w ∈ wsX4_mendedThen := fun w h => List.mem_cons_of_mem _ (List.mem_append_right _ h)
  unfold M_X4_mendedThen at h
  refine lv_iload_n hx hb dX4_mendedThen_0 rfl (lv_at hl 1 rfl) ?_
  refine lv_bipush (v := 99) hx hb dX4_mendedThen_1 (by decide) ?_
  obtain ⟨r3, q3, h⟩ := bnd1_inv h
  refine kSI (n := 2) (As := [.int p1, .int (99 : Int32)]) (rest := []) CF hl hK hP hD hS hA (c_X4_wrongBy l D cI   p1 (99 : Int32) r3 q3) gX4_mendedThen_X4_wrongBy rfl dX4_mendedThen_3 (by decide +kernel) ⟨⟨rfl, rfl⟩, ⟨Nat.le_of_ble_eq_true rfl, Nat.le_of_ble_eq_true rfl⟩, Nat.zero_le _, Nat.zero_le _⟩ (JN.ro [] rfl rfl) rfl rfl (Nat.le_of_ble_eq_true rfl) (fun H locs hP hD hS => ?_)
  refine lv_istore_n (lv' := [(2, .int r3), (0, .ref (a 0)), (1, .int p1)]) hx hb dX4_mendedThen_6 rfl hl (by decide) rfl (fun ls hl => ?_)
  refine lv_iload_n hx hb dX4_mendedThen_7 rfl (lv_at hl 0 rfl) ?_
  refine lv_if_eq (tgt := 17) hx hb dX4_mendedThen_8 (by decide) (fun c8 => ?_) (fun c8 => ?_)
  · replace h := fx_ite_t c8 h
    refine lv_aload_n hx hb dX4_mendedThen_17 rfl (lv_at hl 1 rfl) ?_
    refine lv_iload_n hx hb dX4_mendedThen_18 rfl (lv_at hl 2 rfl) ?_
    obtain ⟨u19_mm, q19, h⟩ := bnd1_inv h
    refine kVV (n := 1) (As := [.int p1]) (rest := []) CF hl hK hP hD hS hA (c_X4_takes l D cI a ss mm im wa hi le ro re lm rm pl nu gi bg bm sd p1 u19_mm q19) gX4_mendedThen_X4_takes rfl dX4_mendedThen_19 (by decide +kernel) ⟨⟨rfl, rfl⟩, ⟨Nat.le_of_ble_eq_true rfl, Nat.le_of_ble_eq_true rfl⟩, Nat.zero_le _, Nat.zero_le _⟩ (JN.whole (w1 := (cM a cI ss u19_mm im wa hi le ro re lm rm pl nu gi bg bm sd)) rfl) 0 rfl ⟨rfl, rfl⟩ rfl rfl (Nat.le_of_ble_eq_true rfl) (fun H locs hP hD hS => ?_)
    replace hP : va_P D vwCl (cM a cI ss u19_mm im wa hi le ro re lm rm pl nu gi bg bm sd) H := hP
    replace hD : va_D A (cM a cI ss u19_mm im wa hi le ro re lm rm pl nu gi bg bm sd) := hD
    refine lv_aload_n hx hb dX4_mendedThen_22 rfl (lv_at hl 1 rfl) ?_
    refine va_get (D := D) (ci := 4) (v := .ref (a 2)) (C := RX4) (T := TX4) (N := 16) hx hb hts i4 hown hK hP 0 rfl rfl 1 (by decide) f13 (fun _ h9 => h9) rfl dX4_mendedThen_23 ?_
    obtain ⟨r26, q26, h⟩ := bnd1_inv h
    refine kSI (n := 1) (As := [.ref (a 2)]) (rest := []) CF hl hK hP hD hS hA (c_X4_mendedAll l D cI (a 2) u19_mm  r26 q26) gX4_mendedThen_X4_mendedAll rfl dX4_mendedThen_26 (by decide +kernel) ⟨⟨rfl, rfl⟩, ⟨Nat.le_of_ble_eq_true rfl, Nat.le_of_ble_eq_true rfl⟩, Nat.zero_le _, Nat.zero_le _⟩ (JN.ro [2] rfl rfl) rfl rfl (Nat.le_of_ble_eq_true rfl) (fun H locs hP hD hS => ?_)
    refine lv_aload_n hx hb dX4_mendedThen_29 rfl (lv_at hl 1 rfl) ?_
    refine va_get (D := D) (ci := 4) (v := .ref (a 1)) (C := RX4) (T := TX4) (N := 16) hx hb hts i4 hown hK hP 0 rfl rfl 0 (by decide) f9 (fun _ h9 => h9) rfl dX4_mendedThen_30 ?_
    obtain ⟨r33, q33, h⟩ := bnd1_inv h
    refine kSI (n := 1) (As := [.ref (a 1)]) (rest := [.int r26]) CF hl hK hP hD hS hA (c_X4_mendedAll l D cI (a 1) ss  r33 q33) gX4_mendedThen_X4_mendedAll rfl dX4_mendedThen_33 (by decide +kernel) ⟨⟨rfl, rfl⟩, ⟨Nat.le_of_ble_eq_true rfl, Nat.le_of_ble_eq_true rfl⟩, Nat.zero_le _, Nat.zero_le _⟩ (JN.ro [1] rfl rfl) rfl rfl (Nat.le_of_ble_eq_true rfl) (fun H locs hP hD hS => ?_)
    refine lv_isub hx hb dX4_mendedThen_36 ?_
    obtain ⟨rfl, rfl, rfl⟩ := rtv3 h
    exact rI hQ hx hb hr hlocks hAe hP hS rfl rfl dX4_mendedThen_37
  · replace h := fx_ite_f c8 h
    refine lv_aload_n hx hb dX4_mendedThen_11 rfl (lv_at hl 1 rfl) ?_
    refine lv_iload_n hx hb dX4_mendedThen_12 rfl (lv_at hl 0 rfl) ?_
    obtain ⟨r13, u13_re, q13, h⟩ := bnd2_inv h
    refine kVI (n := 1) (As := [.int r3]) (rest := []) CF hl hK hP hD hS hA (c_X4_no l D cI a ss mm im wa hi le ro re lm rm pl nu gi bg bm sd r3 r13 u13_re q13) gX4_mendedThen_X4_no rfl dX4_mendedThen_13 (by decide +kernel) ⟨⟨rfl, rfl⟩, ⟨Nat.le_of_ble_eq_true rfl, Nat.le_of_ble_eq_true rfl⟩, Nat.zero_le _, Nat.zero_le _⟩ (JN.whole (w1 := (cM a cI ss mm im wa hi le ro u13_re lm rm pl nu gi bg bm sd)) rfl) 0 rfl ⟨rfl, rfl⟩ rfl rfl (Nat.le_of_ble_eq_true rfl) (fun H locs hP hD hS => ?_)
    replace hP : va_P D vwCl (cM a cI ss mm im wa hi le ro u13_re lm rm pl nu gi bg bm sd) H := hP
    replace hD : va_D A (cM a cI ss mm im wa hi le ro u13_re lm rm pl nu gi bg bm sd) := hD
    obtain ⟨rfl, rfl, rfl⟩ := rtv3 h
    exact rI hQ hx hb hr hlocks hAe hP hS rfl rfl dX4_mendedThen_16
/-! X4_whenIn -/
set_option maxHeartbeats 4000000 in
set_option maxRecDepth 100000 in
theorem c_X4_whenIn (l : Launch) (D : va_G) (cI : ClassId) (a : Nat → Nat) (ss : (Nat → Int32)) (mm : (Nat → Int32)) (im : (Nat → Int32)) (wa : (Nat → Int32)) (hi : Int32) (le : (Nat → Int32)) (ro : (Nat → Int32)) (re : (Nat → Int32)) (lm : Int32) (rm : Int32) (pl : Int32) (nu : (Nat → Int32)) (gi : (Nat → Int32)) (bg : (Nat → Int32)) (bm : Int32) (sd : Int32) (p1 : Int32) (p2 : Int32) (p3 : Int32) (res : Int32) (u_mm : (Nat → Int32)) (h : M_X4_whenIn mm p1 p2 p3 = some (res, u_mm)) : mI l yX4_whenIn wsX4_whenIn { frames := 6, cells := 0, slots := 0, locals := 132 } D cI [.ref (a 0), .int p1, .int p2, .int p3] (cM a cI ss mm im wa hi le ro re lm rm pl nu gi bg bm sd) (cM a cI ss u_mm im wa hi le ro re lm rm pl nu gi bg bm sd) res := by
  intro sz
  refine mStart (cc := cX4_whenIn) (maxL := 6) (ret := (some .int)) (own := RX4) (by decide) rfl rfl (Nat.le_of_ble_eq_true rfl) (lv := [(0, .ref (a 0)), (1, .int p1), (2, .int p2), (3, .int p3)]) rfl ?_
  intro p e s m args below meth c A ls Q H locs CF hr hlocks hK hP hD hS hA hAe hl hQ
  obtain ⟨hx, hb, hml, hown, hts⟩ := id CF
  have f13 := hts (.fieldLink RX4 13 "MendAnothersBreakingModel" "m" "[I") (List.mem_of_getElem? (i := 1) rfl)
  have i4 : ∀ w ∈ wsX40, w ∈ wsX4_whenIn := fun w h => List.mem_cons_of_mem _ (List.mem_append_right _ h)
  have L3 : ∀ (n : Nat) (x1 : Int32) (x2 : Int32) (x3 : Int32) (x4 : Int32) (mm : (Nat → Int32)), fuel (fun _ _ => none) (B_X4_whenIn_3 x1 x2 x3) n x4 mm = some (res, u_mm) → 
      ∀ (H : Heap) (locs : List Loc) (ls : Array Slot), va_P D vwCl (cM a cI ss mm im wa hi le ro re lm rm pl nu gi bg bm sd) H → va_D A (cM a cI ss mm im wa hi le ro re lm rm pl nu gi bg bm sd) → va_S A s.heap H locs → lv_has ls 6 [(0, .ref (a 0)), (1, .int x1), (2, .int x2), (3, .int x3), (4, .int x4)] → W p l e { frames := 6, cells := 0, slots := 0, locals := 132 } s m args below meth c H locs 0 0 Q (F0 m 3 ls []) := by
    intro n
    induction n with
    | zero =>
      intro x1 x2 x3 x4 mm h
      exact nomatch (show (none : Option (Int32 × (Nat → Int32))) = some (res, u_mm) from h)
    | succ n ih =>
      intro x1 x2 x3 x4 mm h  H locs ls hP hD hS hl
      replace h : B_X4_whenIn_3 x1 x2 x3 (fuel (fun _ _ => none) (B_X4_whenIn_3 x1 x2 x3) n) x4 mm = some (res, u_mm) := h
      unfold B_X4_whenIn_3 at h
      refine lv_iload hx hb dX4_whenIn_3 (lv_at hl 4 rfl) ?_
      refine lv_bipush (v := 99) hx hb dX4_whenIn_5 (by decide) ?_
      refine lv_icmp_gt (tgt := 59) hx hb dX4_whenIn_7 (by decide) (fun c7 => ?_) (fun c7 => ?_)
      · replace h := fx_ite_t c7 h
        refine lv_bipush (v := (-9)) hx hb dX4_whenIn_59 (by decide) ?_
        obtain ⟨rfl, rfl⟩ := rtv2 h
        exact rI hQ hx hb hr hlocks hAe hP hS rfl rfl dX4_whenIn_61
      · replace h := fx_ite_f c7 h
        refine lv_aload_n hx hb dX4_whenIn_10 rfl (lv_at hl 0 rfl) ?_
        refine va_get (D := D) (ci := 4) (v := .ref (a 2)) (C := RX4) (T := TX4) (N := 16) hx hb hts i4 hown hK hP 0 rfl rfl 1 (by decide) f13 (fun _ h9 => h9) rfl dX4_whenIn_11 ?_
        obtain ⟨r14, q14, h⟩ := bnd1_inv h
        refine kSI (n := 1) (As := [.ref (a 2)]) (rest := []) CF hl hK hP hD hS hA (c_X4_wholeSet l D cI (a 2) mm  r14 q14) gX4_whenIn_X4_wholeSet rfl dX4_whenIn_14 (by decide +kernel) ⟨⟨rfl, rfl⟩, ⟨Nat.le_of_ble_eq_true rfl, Nat.le_of_ble_eq_true rfl⟩, Nat.zero_le _, Nat.zero_le _⟩ (JN.ro [2] rfl rfl) rfl rfl (Nat.le_of_ble_eq_true rfl) (fun H locs hP hD hS => ?_)
        refine lv_iload_n hx hb dX4_whenIn_17 rfl (lv_at hl 1 rfl) ?_
        refine lv_iand hx hb dX4_whenIn_18 ?_
        refine lv_iload_n hx hb dX4_whenIn_19 rfl (lv_at hl 1 rfl) ?_
        refine lv_icmp_ne (tgt := 27) hx hb dX4_whenIn_20 (by decide) (fun c20 => ?_) (fun c20 => ?_)
        · replace h := fx_ite_f c20 h
          refine lv_iconst (v := 0) hx hb dX4_whenIn_27 (by decide) ?_
          refine lv_istore (lv' := [(5, .int (0 : Int32)), (0, .ref (a 0)), (1, .int x1), (2, .int x2), (3, .int x3), (4, .int x4)]) hx hb dX4_whenIn_28 hl (by decide) rfl (fun ls hl => ?_)
          refine lv_iload hx hb dX4_whenIn_30 (lv_at hl 5 rfl) ?_
          refine lv_iload_n hx hb dX4_whenIn_32 rfl (lv_at hl 4 rfl) ?_
          refine lv_icmp_lt (tgt := 45) hx hb dX4_whenIn_33 (by decide) (fun c33 => ?_) (fun c33 => ?_)
          · replace h := fx_ite_t c33 h
            refine lv_aload_n hx hb dX4_whenIn_45 rfl (lv_at hl 1 rfl) ?_
            refine va_get (D := D) (ci := 4) (v := .ref (a 2)) (C := RX4) (T := TX4) (N := 16) hx hb hts i4 hown hK hP 0 rfl rfl 1 (by decide) f13 (fun _ h9 => h9) rfl dX4_whenIn_46 ?_
            refine lv_iconst (v := 1) hx hb dX4_whenIn_49 (by decide) ?_
            obtain ⟨u50_mm, q50, h⟩ := bnd1_inv h
            refine kSV (n := 2) (As := [.ref (a 2), .int (1 : Int32)]) (rest := []) CF hl hK hP hD hS hA (c_X4_day l D cI (a 2) mm (1 : Int32) u50_mm q50) gX4_whenIn_X4_day rfl dX4_whenIn_50 (by decide +kernel) ⟨⟨rfl, rfl⟩, ⟨Nat.le_of_ble_eq_true rfl, Nat.le_of_ble_eq_true rfl⟩, Nat.zero_le _, Nat.zero_le _⟩ (JN.sub (wst' := (cM a cI ss u50_mm im wa hi le ro re lm rm pl nu gi bg bm sd)) [2] rfl rfl rfl rfl) rfl rfl (Nat.le_of_ble_eq_true rfl) (fun H locs hP hD hS => ?_)
            replace hP : va_P D vwCl (cM a cI ss u50_mm im wa hi le ro re lm rm pl nu gi bg bm sd) H := hP
            replace hD : va_D A (cM a cI ss u50_mm im wa hi le ro re lm rm pl nu gi bg bm sd) := hD
            refine lv_iinc (v := (x4 + 1)) (lv' := [(4, .int (x4 + 1)), (5, .int (0 : Int32)), (0, .ref (a 0)), (1, .int x1), (2, .int x2), (3, .int x3)]) hx hb dX4_whenIn_53 hl (k := 5) rfl (by first | rfl | decide) (by decide) rfl (fun ls hl => ?_)
            refine lv_goto (tgt := 3) hx hb dX4_whenIn_56 (by decide) ?_
            exact ih _ _ _ _ _ h  _ _ _ hP hD hS (lv_sub hl [2, 3, 4, 5, 0] rfl)
          · replace h := fx_ite_f c33 h
            refine lv_iload hx hb dX4_whenIn_36 (lv_at hl 0 rfl) ?_
            refine lv_iload_n hx hb dX4_whenIn_38 rfl (lv_at hl 3 rfl) ?_
            refine lv_icmp_ne (tgt := 45) hx hb dX4_whenIn_39 (by decide) (fun c39 => ?_) (fun c39 => ?_)
            · replace h := fx_ite_f c39 h
              refine lv_aload_n hx hb dX4_whenIn_45 rfl (lv_at hl 1 rfl) ?_
              refine va_get (D := D) (ci := 4) (v := .ref (a 2)) (C := RX4) (T := TX4) (N := 16) hx hb hts i4 hown hK hP 0 rfl rfl 1 (by decide) f13 (fun _ h9 => h9) rfl dX4_whenIn_46 ?_
              refine lv_iconst (v := 1) hx hb dX4_whenIn_49 (by decide) ?_
              obtain ⟨u50_mm, q50, h⟩ := bnd1_inv h
              refine kSV (n := 2) (As := [.ref (a 2), .int (1 : Int32)]) (rest := []) CF hl hK hP hD hS hA (c_X4_day l D cI (a 2) mm (1 : Int32) u50_mm q50) gX4_whenIn_X4_day rfl dX4_whenIn_50 (by decide +kernel) ⟨⟨rfl, rfl⟩, ⟨Nat.le_of_ble_eq_true rfl, Nat.le_of_ble_eq_true rfl⟩, Nat.zero_le _, Nat.zero_le _⟩ (JN.sub (wst' := (cM a cI ss u50_mm im wa hi le ro re lm rm pl nu gi bg bm sd)) [2] rfl rfl rfl rfl) rfl rfl (Nat.le_of_ble_eq_true rfl) (fun H locs hP hD hS => ?_)
              replace hP : va_P D vwCl (cM a cI ss u50_mm im wa hi le ro re lm rm pl nu gi bg bm sd) H := hP
              replace hD : va_D A (cM a cI ss u50_mm im wa hi le ro re lm rm pl nu gi bg bm sd) := hD
              refine lv_iinc (v := (x4 + 1)) (lv' := [(4, .int (x4 + 1)), (5, .int (0 : Int32)), (0, .ref (a 0)), (1, .int x1), (2, .int x2), (3, .int x3)]) hx hb dX4_whenIn_53 hl (k := 5) rfl (by first | rfl | decide) (by decide) rfl (fun ls hl => ?_)
              refine lv_goto (tgt := 3) hx hb dX4_whenIn_56 (by decide) ?_
              exact ih _ _ _ _ _ h  _ _ _ hP hD hS (lv_sub hl [2, 3, 4, 5, 0] rfl)
            · replace h := fx_ite_t c39 h
              refine lv_iload hx hb dX4_whenIn_42 (lv_at hl 5 rfl) ?_
              obtain ⟨rfl, rfl⟩ := rtv2 h
              exact rI hQ hx hb hr hlocks hAe hP hS rfl rfl dX4_whenIn_44
        · replace h := fx_ite_t c20 h
          refine lv_iconst (v := 1) hx hb dX4_whenIn_23 (by decide) ?_
          refine lv_goto (tgt := 28) hx hb dX4_whenIn_24 (by decide) ?_
          refine lv_istore (lv' := [(5, .int (1 : Int32)), (0, .ref (a 0)), (1, .int x1), (2, .int x2), (3, .int x3), (4, .int x4)]) hx hb dX4_whenIn_28 hl (by decide) rfl (fun ls hl => ?_)
          refine lv_iload hx hb dX4_whenIn_30 (lv_at hl 5 rfl) ?_
          refine lv_iload_n hx hb dX4_whenIn_32 rfl (lv_at hl 4 rfl) ?_
          refine lv_icmp_lt (tgt := 45) hx hb dX4_whenIn_33 (by decide) (fun c33 => ?_) (fun c33 => ?_)
          · replace h := fx_ite_t c33 h
            refine lv_aload_n hx hb dX4_whenIn_45 rfl (lv_at hl 1 rfl) ?_
            refine va_get (D := D) (ci := 4) (v := .ref (a 2)) (C := RX4) (T := TX4) (N := 16) hx hb hts i4 hown hK hP 0 rfl rfl 1 (by decide) f13 (fun _ h9 => h9) rfl dX4_whenIn_46 ?_
            refine lv_iconst (v := 1) hx hb dX4_whenIn_49 (by decide) ?_
            obtain ⟨u50_mm, q50, h⟩ := bnd1_inv h
            refine kSV (n := 2) (As := [.ref (a 2), .int (1 : Int32)]) (rest := []) CF hl hK hP hD hS hA (c_X4_day l D cI (a 2) mm (1 : Int32) u50_mm q50) gX4_whenIn_X4_day rfl dX4_whenIn_50 (by decide +kernel) ⟨⟨rfl, rfl⟩, ⟨Nat.le_of_ble_eq_true rfl, Nat.le_of_ble_eq_true rfl⟩, Nat.zero_le _, Nat.zero_le _⟩ (JN.sub (wst' := (cM a cI ss u50_mm im wa hi le ro re lm rm pl nu gi bg bm sd)) [2] rfl rfl rfl rfl) rfl rfl (Nat.le_of_ble_eq_true rfl) (fun H locs hP hD hS => ?_)
            replace hP : va_P D vwCl (cM a cI ss u50_mm im wa hi le ro re lm rm pl nu gi bg bm sd) H := hP
            replace hD : va_D A (cM a cI ss u50_mm im wa hi le ro re lm rm pl nu gi bg bm sd) := hD
            refine lv_iinc (v := (x4 + 1)) (lv' := [(4, .int (x4 + 1)), (5, .int (1 : Int32)), (0, .ref (a 0)), (1, .int x1), (2, .int x2), (3, .int x3)]) hx hb dX4_whenIn_53 hl (k := 5) rfl (by first | rfl | decide) (by decide) rfl (fun ls hl => ?_)
            refine lv_goto (tgt := 3) hx hb dX4_whenIn_56 (by decide) ?_
            exact ih _ _ _ _ _ h  _ _ _ hP hD hS (lv_sub hl [2, 3, 4, 5, 0] rfl)
          · replace h := fx_ite_f c33 h
            refine lv_iload hx hb dX4_whenIn_36 (lv_at hl 0 rfl) ?_
            refine lv_iload_n hx hb dX4_whenIn_38 rfl (lv_at hl 3 rfl) ?_
            refine lv_icmp_ne (tgt := 45) hx hb dX4_whenIn_39 (by decide) (fun c39 => ?_) (fun c39 => ?_)
            · replace h := fx_ite_f c39 h
              refine lv_aload_n hx hb dX4_whenIn_45 rfl (lv_at hl 1 rfl) ?_
              refine va_get (D := D) (ci := 4) (v := .ref (a 2)) (C := RX4) (T := TX4) (N := 16) hx hb hts i4 hown hK hP 0 rfl rfl 1 (by decide) f13 (fun _ h9 => h9) rfl dX4_whenIn_46 ?_
              refine lv_iconst (v := 1) hx hb dX4_whenIn_49 (by decide) ?_
              obtain ⟨u50_mm, q50, h⟩ := bnd1_inv h
              refine kSV (n := 2) (As := [.ref (a 2), .int (1 : Int32)]) (rest := []) CF hl hK hP hD hS hA (c_X4_day l D cI (a 2) mm (1 : Int32) u50_mm q50) gX4_whenIn_X4_day rfl dX4_whenIn_50 (by decide +kernel) ⟨⟨rfl, rfl⟩, ⟨Nat.le_of_ble_eq_true rfl, Nat.le_of_ble_eq_true rfl⟩, Nat.zero_le _, Nat.zero_le _⟩ (JN.sub (wst' := (cM a cI ss u50_mm im wa hi le ro re lm rm pl nu gi bg bm sd)) [2] rfl rfl rfl rfl) rfl rfl (Nat.le_of_ble_eq_true rfl) (fun H locs hP hD hS => ?_)
              replace hP : va_P D vwCl (cM a cI ss u50_mm im wa hi le ro re lm rm pl nu gi bg bm sd) H := hP
              replace hD : va_D A (cM a cI ss u50_mm im wa hi le ro re lm rm pl nu gi bg bm sd) := hD
              refine lv_iinc (v := (x4 + 1)) (lv' := [(4, .int (x4 + 1)), (5, .int (1 : Int32)), (0, .ref (a 0)), (1, .int x1), (2, .int x2), (3, .int x3)]) hx hb dX4_whenIn_53 hl (k := 5) rfl (by first | rfl | decide) (by decide) rfl (fun ls hl => ?_)
              refine lv_goto (tgt := 3) hx hb dX4_whenIn_56 (by decide) ?_
              exact ih _ _ _ _ _ h  _ _ _ hP hD hS (lv_sub hl [2, 3, 4, 5, 0] rfl)
            · replace h := fx_ite_t c39 h
              refine lv_iload hx hb dX4_whenIn_42 (lv_at hl 5 rfl) ?_
              obtain ⟨rfl, rfl⟩ := rtv2 h
              exact rI hQ hx hb hr hlocks hAe hP hS rfl rfl dX4_whenIn_44
  unfold M_X4_whenIn at h
  refine lv_iconst (v := 0) hx hb dX4_whenIn_0 (by decide) ?_
  refine lv_istore (lv' := [(4, .int (0 : Int32)), (0, .ref (a 0)), (1, .int p1), (2, .int p2), (3, .int p3)]) hx hb dX4_whenIn_1 hl (by decide) rfl (fun ls hl => ?_)
  exact L3 FU _ _ _ _ _ h  _ _ _ hP hD hS (lv_sub hl [1, 2, 3, 4, 0] rfl)
/-! X4_whenOf -/
set_option maxHeartbeats 4000000 in
set_option maxRecDepth 100000 in
theorem c_X4_whenOf (l : Launch) (D : va_G) (cI : ClassId) (a : Nat → Nat) (ss : (Nat → Int32)) (mm : (Nat → Int32)) (im : (Nat → Int32)) (wa : (Nat → Int32)) (hi : Int32) (le : (Nat → Int32)) (ro : (Nat → Int32)) (re : (Nat → Int32)) (lm : Int32) (rm : Int32) (pl : Int32) (nu : (Nat → Int32)) (gi : (Nat → Int32)) (bg : (Nat → Int32)) (bm : Int32) (sd : Int32) (p1 : Int32) (p2 : Int32) (res : Int32) (u_mm : (Nat → Int32)) (h : M_X4_whenOf ss mm p1 p2 = some (res, u_mm)) : mI l yX4_whenOf wsX4_whenOf { frames := 7, cells := 0, slots := 0, locals := 157 } D cI [.ref (a 0), .int p1, .int p2] (cM a cI ss mm im wa hi le ro re lm rm pl nu gi bg bm sd) (cM a cI ss u_mm im wa hi le ro re lm rm pl nu gi bg bm sd) res := by
  intro sz
  refine mStart (cc := cX4_whenOf) (maxL := 3) (ret := (some .int)) (own := RX4) (by decide) rfl rfl (Nat.le_of_ble_eq_true rfl) (lv := [(0, .ref (a 0)), (1, .int p1), (2, .int p2)]) rfl ?_
  intro p e s m args below meth c A ls Q H locs CF hr hlocks hK hP hD hS hA hAe hl hQ
  obtain ⟨hx, hb, hml, hown, hts⟩ := id CF
  have f9 := hts (.fieldLink RX4 9 "MendAnothersBreakingModel" "s" "[I") (List.mem_of_getElem? (i := 1) rfl)
  have f13 := hts (.fieldLink RX4 13 "MendAnothersBreakingModel" "m" "[I") (List.mem_of_getElem? (i := 2) rfl)
  have i4 : ∀ w ∈ wsX40, w ∈ wsX4_whenOf := fun w h => List.mem_cons_of_mem _ (List.mem_append_right _ h)
  unfold M_X4_whenOf at h
  refine lv_aload_n hx hb dX4_whenOf_0 rfl (lv_at hl 0 rfl) ?_
  refine va_get (D := D) (ci := 4) (v := .ref (a 1)) (C := RX4) (T := TX4) (N := 16) hx hb hts i4 hown hK hP 0 rfl rfl 0 (by decide) f9 (fun _ h9 => h9) rfl dX4_whenOf_1 ?_
  refine lv_aload_n hx hb dX4_whenOf_4 rfl (lv_at hl 0 rfl) ?_
  refine va_get (D := D) (ci := 4) (v := .ref (a 2)) (C := RX4) (T := TX4) (N := 16) hx hb hts i4 hown hK hP 0 rfl rfl 1 (by decide) f13 (fun _ h9 => h9) rfl dX4_whenOf_5 ?_
  obtain ⟨u8_mm, q8, h⟩ := bnd1_inv h
  refine kSV (n := 2) (As := [.ref (a 1), .ref (a 2)]) (rest := []) CF hl hK hP hD hS hA (c_X4_copies l D cI (a 1) (a 2) ss mm  u8_mm q8) gX4_whenOf_X4_copies rfl dX4_whenOf_8 (by decide +kernel) ⟨⟨rfl, rfl⟩, ⟨Nat.le_of_ble_eq_true rfl, Nat.le_of_ble_eq_true rfl⟩, Nat.zero_le _, Nat.zero_le _⟩ (JN.sub (wst' := (cM a cI ss u8_mm im wa hi le ro re lm rm pl nu gi bg bm sd)) [1, 2] rfl rfl rfl rfl) rfl rfl (Nat.le_of_ble_eq_true rfl) (fun H locs hP hD hS => ?_)
  replace hP : va_P D vwCl (cM a cI ss u8_mm im wa hi le ro re lm rm pl nu gi bg bm sd) H := hP
  replace hD : va_D A (cM a cI ss u8_mm im wa hi le ro re lm rm pl nu gi bg bm sd) := hD
  refine lv_aload_n hx hb dX4_whenOf_11 rfl (lv_at hl 0 rfl) ?_
  refine lv_iload_n hx hb dX4_whenOf_12 rfl (lv_at hl 1 rfl) ?_
  refine lv_iload_n hx hb dX4_whenOf_13 rfl (lv_at hl 2 rfl) ?_
  refine lv_iconst (v := 0) hx hb dX4_whenOf_14 (by decide) ?_
  obtain ⟨r15, u15_mm, q15, h⟩ := bnd2_inv h
  refine kVI (n := 3) (As := [.int p1, .int p2, .int (0 : Int32)]) (rest := []) CF hl hK hP hD hS hA (c_X4_whenIn l D cI a ss u8_mm im wa hi le ro re lm rm pl nu gi bg bm sd p1 p2 (0 : Int32) r15 u15_mm q15) gX4_whenOf_X4_whenIn rfl dX4_whenOf_15 (by decide +kernel) ⟨⟨rfl, rfl⟩, ⟨Nat.le_of_ble_eq_true rfl, Nat.le_of_ble_eq_true rfl⟩, Nat.zero_le _, Nat.zero_le _⟩ (JN.whole (w1 := (cM a cI ss u15_mm im wa hi le ro re lm rm pl nu gi bg bm sd)) rfl) 0 rfl ⟨rfl, rfl⟩ rfl rfl (Nat.le_of_ble_eq_true rfl) (fun H locs hP hD hS => ?_)
  replace hP : va_P D vwCl (cM a cI ss u15_mm im wa hi le ro re lm rm pl nu gi bg bm sd) H := hP
  replace hD : va_D A (cM a cI ss u15_mm im wa hi le ro re lm rm pl nu gi bg bm sd) := hD
  obtain ⟨rfl, rfl⟩ := rtv2 h
  exact rI hQ hx hb hr hlocks hAe hP hS rfl rfl dX4_whenOf_18
