/-! X3_thinkOut -/
set_option maxHeartbeats 4000000 in
set_option maxRecDepth 100000 in
theorem c_X3_thinkOut (l : Launch) (D : va_G) (cI : ClassId) (a : Nat → Nat) (no : SV) (mi : SV) (ke : SV) (hk : Int32) (sg : (Nat → Int32)) (lz : Int32) (rn : (Nat → Int32)) (rs : Int32) (rf : (Nat → Int32)) (be : (Nat → Int32)) (fh : (Nat → Int32)) (oh : (Nat → Int32)) (p1 : Int32) (p2 : Int32) (p3 : Int32) (p4 : Int32) (u_mi : SV) (u_fh : (Nat → Int32)) (u_oh : (Nat → Int32)) (h : M_X3_thinkOut no mi fh oh p1 p2 p3 p4 = some (u_mi, u_fh, u_oh)) : mV l yX3_thinkOut wsX3_thinkOut { frames := 5, cells := 0, slots := 0, locals := 115 } D cI [.ref (a 0), .int p1, .int p2, .int p3, .int p4] (cX a cI no mi ke hk sg lz rn rs rf be fh oh) (cX a cI no u_mi ke hk sg lz rn rs rf be u_fh u_oh) := by
  intro sz
  refine mStart (cc := cX3_thinkOut) (maxL := 5) (ret := none) (own := RX3) (by decide) rfl rfl (Nat.le_of_ble_eq_true rfl) (lv := [(0, .ref (a 0)), (1, .int p1), (2, .int p2), (3, .int p3), (4, .int p4)]) rfl ?_
  intro p e s m args below meth c A ls Q H locs CF hr hlocks hK hP hD hS hA hAe hl hQ
  obtain ⟨hx, hb, hml, hown, hts⟩ := id CF
  have f10 := hts (.fieldLink RX3 10 "MendAnothersBreaking" "now" "LMendAnothersBreaking$State;") (List.mem_of_getElem? (i := 2) rfl)
  have f16 := hts (.fieldLink RX3 16 "MendAnothersBreaking" "mind" "LMendAnothersBreaking$State;") (List.mem_of_getElem? (i := 1) rfl)
  have f51 := hts (.fieldLink RX3 51 "MendAnothersBreaking" "firstHas" "[I") (List.mem_of_getElem? (i := 3) rfl)
  have f54 := hts (.fieldLink RX3 54 "MendAnothersBreaking" "otherHas" "[I") (List.mem_of_getElem? (i := 4) rfl)
  have i3 : ∀ w ∈ wsX30, w ∈ wsX3_thinkOut := fun w h => List.mem_cons_of_mem _ (List.mem_append_left _ (List.mem_append_right _ h))
  unfold M_X3_thinkOut at h
  refine lv_aload_n hx hb dX3_thinkOut_0 rfl (lv_at hl 0 rfl) ?_
  refine va_get (D := D) (ci := 3) (v := .ref (a 9)) (C := RX3) (T := TX3) (N := 11) hx hb hts i3 hown hK hP 0 rfl rfl 1 (by decide) f16 (fun _ h9 => h9) rfl dX3_thinkOut_1 ?_
  refine lv_aload_n hx hb dX3_thinkOut_4 rfl (lv_at hl 0 rfl) ?_
  refine va_get (D := D) (ci := 3) (v := .ref (a 1)) (C := RX3) (T := TX3) (N := 11) hx hb hts i3 hown hK hP 0 rfl rfl 0 (by decide) f10 (fun _ h9 => h9) rfl dX3_thinkOut_5 ?_
  obtain ⟨u8_mi, q8, h⟩ := bnd1_inv h
  refine kVV (n := 1) (As := [.ref (a 1)]) (rest := []) CF hl hK hP hD hS hA (c_X2_become l D cI (a 9) (a 10) (a 11) (a 12) (a 13) (a 14) (a 15) (a 16) (a 1) (a 2) (a 3) (a 4) (a 5) (a 6) (a 7) (a 8) mi no  u8_mi q8) gX3_thinkOut_X2_become rfl dX3_thinkOut_8 (by decide +kernel) ⟨⟨rfl, rfl⟩, ⟨Nat.le_of_ble_eq_true rfl, Nat.le_of_ble_eq_true rfl⟩, Nat.zero_le _, Nat.zero_le _⟩ (JN.sub (wst' := (cX a cI no u8_mi ke hk sg lz rn rs rf be fh oh)) [9, 10, 11, 12, 13, 14, 15, 16, 1, 2, 3, 4, 5, 6, 7, 8] rfl rfl rfl rfl) 9 rfl ⟨rfl, rfl⟩ rfl rfl (Nat.le_of_ble_eq_true rfl) (fun H locs hP hD hS => ?_)
  replace hP : va_P D vwCl (cX a cI no u8_mi ke hk sg lz rn rs rf be fh oh) H := hP
  replace hD : va_D A (cX a cI no u8_mi ke hk sg lz rn rs rf be fh oh) := hD
  refine lv_iload hx hb dX3_thinkOut_11 (lv_at hl 4 rfl) ?_
  refine lv_iconst (v := 2) hx hb dX3_thinkOut_13 (by decide) ?_
  refine lv_iand hx hb dX3_thinkOut_14 ?_
  refine lv_if_eq (tgt := 27) hx hb dX3_thinkOut_15 (by decide) (fun c15 => ?_) (fun c15 => ?_)
  · replace h := fx_ite_t c15 h
    refine lv_iload hx hb dX3_thinkOut_27 (lv_at hl 4 rfl) ?_
    refine lv_iconst (v := 1) hx hb dX3_thinkOut_29 (by decide) ?_
    refine lv_iand hx hb dX3_thinkOut_30 ?_
    refine lv_if_eq (tgt := 43) hx hb dX3_thinkOut_31 (by decide) (fun c31 => ?_) (fun c31 => ?_)
    · replace h := fx_ite_t c31 h
      refine lv_aload_n hx hb dX3_thinkOut_43 rfl (lv_at hl 0 rfl) ?_
      refine va_get (D := D) (ci := 3) (v := .ref (a 9)) (C := RX3) (T := TX3) (N := 11) hx hb hts i3 hown hK hP 0 rfl rfl 1 (by decide) f16 (fun _ h9 => h9) rfl dX3_thinkOut_44 ?_
      refine lv_iload_n hx hb dX3_thinkOut_47 rfl (lv_at hl 3 rfl) ?_
      refine lv_iconst (v := 1) hx hb dX3_thinkOut_48 (by decide) ?_
      refine lv_bipush (v := (-9)) hx hb dX3_thinkOut_49 (by decide) ?_
      obtain ⟨u51_mi, q51, h⟩ := bnd1_inv h
      refine kVV (n := 3) (As := [.int p3, .int (1 : Int32), .int (-9 : Int32)]) (rest := []) CF hl hK hP hD hS hA (c_X2_pass l D cI (a 9) (a 10) (a 11) (a 12) (a 13) (a 14) (a 15) (a 16) u8_mi p3 (1 : Int32) (-9 : Int32) u51_mi q51) gX3_thinkOut_X2_pass rfl dX3_thinkOut_51 (by decide +kernel) ⟨⟨rfl, rfl⟩, ⟨Nat.le_of_ble_eq_true rfl, Nat.le_of_ble_eq_true rfl⟩, Nat.zero_le _, Nat.zero_le _⟩ (JN.sub (wst' := (cX a cI no u51_mi ke hk sg lz rn rs rf be fh oh)) [9, 10, 11, 12, 13, 14, 15, 16] rfl rfl rfl rfl) 9 rfl ⟨rfl, rfl⟩ rfl rfl (Nat.le_of_ble_eq_true rfl) (fun H locs hP hD hS => ?_)
      replace hP : va_P D vwCl (cX a cI no u51_mi ke hk sg lz rn rs rf be fh oh) H := hP
      replace hD : va_D A (cX a cI no u51_mi ke hk sg lz rn rs rf be fh oh) := hD
      refine lv_aload_n hx hb dX3_thinkOut_54 rfl (lv_at hl 0 rfl) ?_
      refine va_get (D := D) (ci := 3) (v := .ref (a 31)) (C := RX3) (T := TX3) (N := 11) hx hb hts i3 hown hK hP 0 rfl rfl 9 (by decide) f51 (fun _ h9 => h9) rfl dX3_thinkOut_55 ?_
      refine lv_iload hx hb dX3_thinkOut_58 (lv_at hl 4 rfl) ?_
      refine lv_aload_n hx hb dX3_thinkOut_60 rfl (lv_at hl 0 rfl) ?_
      refine va_get (D := D) (ci := 3) (v := .ref (a 9)) (C := RX3) (T := TX3) (N := 11) hx hb hts i3 hown hK hP 0 rfl rfl 1 (by decide) f16 (fun _ h9 => h9) rfl dX3_thinkOut_61 ?_
      refine lv_iload_n hx hb dX3_thinkOut_64 rfl (lv_at hl 1 rfl) ?_
      obtain ⟨r65, q65, h⟩ := bnd1_inv h
      refine kVI (n := 1) (As := [.int p1]) (rest := [.int p4, .ref (a 31)]) CF hl hK hP hD hS hA (c_X2_wholeOf l D cI (a 9) (a 10) (a 11) (a 12) (a 13) (a 14) (a 15) (a 16) u51_mi p1 r65 q65) gX3_thinkOut_X2_wholeOf rfl dX3_thinkOut_65 (by decide +kernel) ⟨⟨rfl, rfl⟩, ⟨Nat.le_of_ble_eq_true rfl, Nat.le_of_ble_eq_true rfl⟩, Nat.zero_le _, Nat.zero_le _⟩ (JN.ro [9, 10, 11, 12, 13, 14, 15, 16] rfl rfl) 9 rfl ⟨rfl, rfl⟩ rfl rfl (Nat.le_of_ble_eq_true rfl) (fun H locs hP hD hS => ?_)
      obtain ⟨g68, h⟩ := chk_inv h
      refine va_iast (n := 4) (f := fh) hx hb hK hP hD hS 31 0 rfl rfl g68 dX3_thinkOut_68 (fun H locs hP hD hS => ?_)
      replace hP : va_P D vwCl (cX a cI no u51_mi ke hk sg lz rn rs rf be (upd fh (Int32.toNatClampNeg p4) r65) oh) H := hP
      replace hD : va_D A (cX a cI no u51_mi ke hk sg lz rn rs rf be (upd fh (Int32.toNatClampNeg p4) r65) oh) := hD
      refine lv_aload_n hx hb dX3_thinkOut_69 rfl (lv_at hl 0 rfl) ?_
      refine va_get (D := D) (ci := 3) (v := .ref (a 32)) (C := RX3) (T := TX3) (N := 11) hx hb hts i3 hown hK hP 0 rfl rfl 10 (by decide) f54 (fun _ h9 => h9) rfl dX3_thinkOut_70 ?_
      refine lv_iload hx hb dX3_thinkOut_73 (lv_at hl 4 rfl) ?_
      refine lv_aload_n hx hb dX3_thinkOut_75 rfl (lv_at hl 0 rfl) ?_
      refine va_get (D := D) (ci := 3) (v := .ref (a 9)) (C := RX3) (T := TX3) (N := 11) hx hb hts i3 hown hK hP 0 rfl rfl 1 (by decide) f16 (fun _ h9 => h9) rfl dX3_thinkOut_76 ?_
      refine lv_iload_n hx hb dX3_thinkOut_79 rfl (lv_at hl 2 rfl) ?_
      obtain ⟨r80, q80, h⟩ := bnd1_inv h
      refine kVI (n := 1) (As := [.int p2]) (rest := [.int p4, .ref (a 32)]) CF hl hK hP hD hS hA (c_X2_wholeOf l D cI (a 9) (a 10) (a 11) (a 12) (a 13) (a 14) (a 15) (a 16) u51_mi p2 r80 q80) gX3_thinkOut_X2_wholeOf rfl dX3_thinkOut_80 (by decide +kernel) ⟨⟨rfl, rfl⟩, ⟨Nat.le_of_ble_eq_true rfl, Nat.le_of_ble_eq_true rfl⟩, Nat.zero_le _, Nat.zero_le _⟩ (JN.ro [9, 10, 11, 12, 13, 14, 15, 16] rfl rfl) 9 rfl ⟨rfl, rfl⟩ rfl rfl (Nat.le_of_ble_eq_true rfl) (fun H locs hP hD hS => ?_)
      obtain ⟨g83, h⟩ := chk_inv h
      refine va_iast (n := 4) (f := oh) hx hb hK hP hD hS 32 0 rfl rfl g83 dX3_thinkOut_83 (fun H locs hP hD hS => ?_)
      replace hP : va_P D vwCl (cX a cI no u51_mi ke hk sg lz rn rs rf be (upd fh (Int32.toNatClampNeg p4) r65) (upd oh (Int32.toNatClampNeg p4) r80)) H := hP
      replace hD : va_D A (cX a cI no u51_mi ke hk sg lz rn rs rf be (upd fh (Int32.toNatClampNeg p4) r65) (upd oh (Int32.toNatClampNeg p4) r80)) := hD
      obtain ⟨rfl, rfl, rfl⟩ := ret3 h
      exact rV hQ hx hb hr hlocks hAe hP hS dX3_thinkOut_84
    · replace h := fx_ite_f c31 h
      refine lv_aload_n hx hb dX3_thinkOut_34 rfl (lv_at hl 0 rfl) ?_
      refine va_get (D := D) (ci := 3) (v := .ref (a 9)) (C := RX3) (T := TX3) (N := 11) hx hb hts i3 hown hK hP 0 rfl rfl 1 (by decide) f16 (fun _ h9 => h9) rfl dX3_thinkOut_35 ?_
      refine lv_iload_n hx hb dX3_thinkOut_38 rfl (lv_at hl 1 rfl) ?_
      refine lv_iload_n hx hb dX3_thinkOut_39 rfl (lv_at hl 2 rfl) ?_
      obtain ⟨u40_mi, q40, h⟩ := bnd1_inv h
      refine kVV (n := 2) (As := [.int p1, .int p2]) (rest := []) CF hl hK hP hD hS hA (c_X2_breakLeastOf l D cI (a 9) (a 10) (a 11) (a 12) (a 13) (a 14) (a 15) (a 16) u8_mi p1 p2 u40_mi q40) gX3_thinkOut_X2_breakLeastOf rfl dX3_thinkOut_40 (by decide +kernel) ⟨⟨rfl, rfl⟩, ⟨Nat.le_of_ble_eq_true rfl, Nat.le_of_ble_eq_true rfl⟩, Nat.zero_le _, Nat.zero_le _⟩ (JN.sub (wst' := (cX a cI no u40_mi ke hk sg lz rn rs rf be fh oh)) [9, 10, 11, 12, 13, 14, 15, 16] rfl rfl rfl rfl) 9 rfl ⟨rfl, rfl⟩ rfl rfl (Nat.le_of_ble_eq_true rfl) (fun H locs hP hD hS => ?_)
      replace hP : va_P D vwCl (cX a cI no u40_mi ke hk sg lz rn rs rf be fh oh) H := hP
      replace hD : va_D A (cX a cI no u40_mi ke hk sg lz rn rs rf be fh oh) := hD
      refine lv_aload_n hx hb dX3_thinkOut_43 rfl (lv_at hl 0 rfl) ?_
      refine va_get (D := D) (ci := 3) (v := .ref (a 9)) (C := RX3) (T := TX3) (N := 11) hx hb hts i3 hown hK hP 0 rfl rfl 1 (by decide) f16 (fun _ h9 => h9) rfl dX3_thinkOut_44 ?_
      refine lv_iload_n hx hb dX3_thinkOut_47 rfl (lv_at hl 3 rfl) ?_
      refine lv_iconst (v := 1) hx hb dX3_thinkOut_48 (by decide) ?_
      refine lv_bipush (v := (-9)) hx hb dX3_thinkOut_49 (by decide) ?_
      obtain ⟨u51_mi, q51, h⟩ := bnd1_inv h
      refine kVV (n := 3) (As := [.int p3, .int (1 : Int32), .int (-9 : Int32)]) (rest := []) CF hl hK hP hD hS hA (c_X2_pass l D cI (a 9) (a 10) (a 11) (a 12) (a 13) (a 14) (a 15) (a 16) u40_mi p3 (1 : Int32) (-9 : Int32) u51_mi q51) gX3_thinkOut_X2_pass rfl dX3_thinkOut_51 (by decide +kernel) ⟨⟨rfl, rfl⟩, ⟨Nat.le_of_ble_eq_true rfl, Nat.le_of_ble_eq_true rfl⟩, Nat.zero_le _, Nat.zero_le _⟩ (JN.sub (wst' := (cX a cI no u51_mi ke hk sg lz rn rs rf be fh oh)) [9, 10, 11, 12, 13, 14, 15, 16] rfl rfl rfl rfl) 9 rfl ⟨rfl, rfl⟩ rfl rfl (Nat.le_of_ble_eq_true rfl) (fun H locs hP hD hS => ?_)
      replace hP : va_P D vwCl (cX a cI no u51_mi ke hk sg lz rn rs rf be fh oh) H := hP
      replace hD : va_D A (cX a cI no u51_mi ke hk sg lz rn rs rf be fh oh) := hD
      refine lv_aload_n hx hb dX3_thinkOut_54 rfl (lv_at hl 0 rfl) ?_
      refine va_get (D := D) (ci := 3) (v := .ref (a 31)) (C := RX3) (T := TX3) (N := 11) hx hb hts i3 hown hK hP 0 rfl rfl 9 (by decide) f51 (fun _ h9 => h9) rfl dX3_thinkOut_55 ?_
      refine lv_iload hx hb dX3_thinkOut_58 (lv_at hl 4 rfl) ?_
      refine lv_aload_n hx hb dX3_thinkOut_60 rfl (lv_at hl 0 rfl) ?_
      refine va_get (D := D) (ci := 3) (v := .ref (a 9)) (C := RX3) (T := TX3) (N := 11) hx hb hts i3 hown hK hP 0 rfl rfl 1 (by decide) f16 (fun _ h9 => h9) rfl dX3_thinkOut_61 ?_
      refine lv_iload_n hx hb dX3_thinkOut_64 rfl (lv_at hl 1 rfl) ?_
      obtain ⟨r65, q65, h⟩ := bnd1_inv h
      refine kVI (n := 1) (As := [.int p1]) (rest := [.int p4, .ref (a 31)]) CF hl hK hP hD hS hA (c_X2_wholeOf l D cI (a 9) (a 10) (a 11) (a 12) (a 13) (a 14) (a 15) (a 16) u51_mi p1 r65 q65) gX3_thinkOut_X2_wholeOf rfl dX3_thinkOut_65 (by decide +kernel) ⟨⟨rfl, rfl⟩, ⟨Nat.le_of_ble_eq_true rfl, Nat.le_of_ble_eq_true rfl⟩, Nat.zero_le _, Nat.zero_le _⟩ (JN.ro [9, 10, 11, 12, 13, 14, 15, 16] rfl rfl) 9 rfl ⟨rfl, rfl⟩ rfl rfl (Nat.le_of_ble_eq_true rfl) (fun H locs hP hD hS => ?_)
      obtain ⟨g68, h⟩ := chk_inv h
      refine va_iast (n := 4) (f := fh) hx hb hK hP hD hS 31 0 rfl rfl g68 dX3_thinkOut_68 (fun H locs hP hD hS => ?_)
      replace hP : va_P D vwCl (cX a cI no u51_mi ke hk sg lz rn rs rf be (upd fh (Int32.toNatClampNeg p4) r65) oh) H := hP
      replace hD : va_D A (cX a cI no u51_mi ke hk sg lz rn rs rf be (upd fh (Int32.toNatClampNeg p4) r65) oh) := hD
      refine lv_aload_n hx hb dX3_thinkOut_69 rfl (lv_at hl 0 rfl) ?_
      refine va_get (D := D) (ci := 3) (v := .ref (a 32)) (C := RX3) (T := TX3) (N := 11) hx hb hts i3 hown hK hP 0 rfl rfl 10 (by decide) f54 (fun _ h9 => h9) rfl dX3_thinkOut_70 ?_
      refine lv_iload hx hb dX3_thinkOut_73 (lv_at hl 4 rfl) ?_
      refine lv_aload_n hx hb dX3_thinkOut_75 rfl (lv_at hl 0 rfl) ?_
      refine va_get (D := D) (ci := 3) (v := .ref (a 9)) (C := RX3) (T := TX3) (N := 11) hx hb hts i3 hown hK hP 0 rfl rfl 1 (by decide) f16 (fun _ h9 => h9) rfl dX3_thinkOut_76 ?_
      refine lv_iload_n hx hb dX3_thinkOut_79 rfl (lv_at hl 2 rfl) ?_
      obtain ⟨r80, q80, h⟩ := bnd1_inv h
      refine kVI (n := 1) (As := [.int p2]) (rest := [.int p4, .ref (a 32)]) CF hl hK hP hD hS hA (c_X2_wholeOf l D cI (a 9) (a 10) (a 11) (a 12) (a 13) (a 14) (a 15) (a 16) u51_mi p2 r80 q80) gX3_thinkOut_X2_wholeOf rfl dX3_thinkOut_80 (by decide +kernel) ⟨⟨rfl, rfl⟩, ⟨Nat.le_of_ble_eq_true rfl, Nat.le_of_ble_eq_true rfl⟩, Nat.zero_le _, Nat.zero_le _⟩ (JN.ro [9, 10, 11, 12, 13, 14, 15, 16] rfl rfl) 9 rfl ⟨rfl, rfl⟩ rfl rfl (Nat.le_of_ble_eq_true rfl) (fun H locs hP hD hS => ?_)
      obtain ⟨g83, h⟩ := chk_inv h
      refine va_iast (n := 4) (f := oh) hx hb hK hP hD hS 32 0 rfl rfl g83 dX3_thinkOut_83 (fun H locs hP hD hS => ?_)
      replace hP : va_P D vwCl (cX a cI no u51_mi ke hk sg lz rn rs rf be (upd fh (Int32.toNatClampNeg p4) r65) (upd oh (Int32.toNatClampNeg p4) r80)) H := hP
      replace hD : va_D A (cX a cI no u51_mi ke hk sg lz rn rs rf be (upd fh (Int32.toNatClampNeg p4) r65) (upd oh (Int32.toNatClampNeg p4) r80)) := hD
      obtain ⟨rfl, rfl, rfl⟩ := ret3 h
      exact rV hQ hx hb hr hlocks hAe hP hS dX3_thinkOut_84
  · replace h := fx_ite_f c15 h
    refine lv_aload_n hx hb dX3_thinkOut_18 rfl (lv_at hl 0 rfl) ?_
    refine va_get (D := D) (ci := 3) (v := .ref (a 9)) (C := RX3) (T := TX3) (N := 11) hx hb hts i3 hown hK hP 0 rfl rfl 1 (by decide) f16 (fun _ h9 => h9) rfl dX3_thinkOut_19 ?_
    refine lv_iload_n hx hb dX3_thinkOut_22 rfl (lv_at hl 2 rfl) ?_
    refine lv_iload_n hx hb dX3_thinkOut_23 rfl (lv_at hl 1 rfl) ?_
    obtain ⟨u24_mi, q24, h⟩ := bnd1_inv h
    refine kVV (n := 2) (As := [.int p2, .int p1]) (rest := []) CF hl hK hP hD hS hA (c_X2_breakLeastOf l D cI (a 9) (a 10) (a 11) (a 12) (a 13) (a 14) (a 15) (a 16) u8_mi p2 p1 u24_mi q24) gX3_thinkOut_X2_breakLeastOf rfl dX3_thinkOut_24 (by decide +kernel) ⟨⟨rfl, rfl⟩, ⟨Nat.le_of_ble_eq_true rfl, Nat.le_of_ble_eq_true rfl⟩, Nat.zero_le _, Nat.zero_le _⟩ (JN.sub (wst' := (cX a cI no u24_mi ke hk sg lz rn rs rf be fh oh)) [9, 10, 11, 12, 13, 14, 15, 16] rfl rfl rfl rfl) 9 rfl ⟨rfl, rfl⟩ rfl rfl (Nat.le_of_ble_eq_true rfl) (fun H locs hP hD hS => ?_)
    replace hP : va_P D vwCl (cX a cI no u24_mi ke hk sg lz rn rs rf be fh oh) H := hP
    replace hD : va_D A (cX a cI no u24_mi ke hk sg lz rn rs rf be fh oh) := hD
    refine lv_iload hx hb dX3_thinkOut_27 (lv_at hl 4 rfl) ?_
    refine lv_iconst (v := 1) hx hb dX3_thinkOut_29 (by decide) ?_
    refine lv_iand hx hb dX3_thinkOut_30 ?_
    refine lv_if_eq (tgt := 43) hx hb dX3_thinkOut_31 (by decide) (fun c31 => ?_) (fun c31 => ?_)
    · replace h := fx_ite_t c31 h
      refine lv_aload_n hx hb dX3_thinkOut_43 rfl (lv_at hl 0 rfl) ?_
      refine va_get (D := D) (ci := 3) (v := .ref (a 9)) (C := RX3) (T := TX3) (N := 11) hx hb hts i3 hown hK hP 0 rfl rfl 1 (by decide) f16 (fun _ h9 => h9) rfl dX3_thinkOut_44 ?_
      refine lv_iload_n hx hb dX3_thinkOut_47 rfl (lv_at hl 3 rfl) ?_
      refine lv_iconst (v := 1) hx hb dX3_thinkOut_48 (by decide) ?_
      refine lv_bipush (v := (-9)) hx hb dX3_thinkOut_49 (by decide) ?_
      obtain ⟨u51_mi, q51, h⟩ := bnd1_inv h
      refine kVV (n := 3) (As := [.int p3, .int (1 : Int32), .int (-9 : Int32)]) (rest := []) CF hl hK hP hD hS hA (c_X2_pass l D cI (a 9) (a 10) (a 11) (a 12) (a 13) (a 14) (a 15) (a 16) u24_mi p3 (1 : Int32) (-9 : Int32) u51_mi q51) gX3_thinkOut_X2_pass rfl dX3_thinkOut_51 (by decide +kernel) ⟨⟨rfl, rfl⟩, ⟨Nat.le_of_ble_eq_true rfl, Nat.le_of_ble_eq_true rfl⟩, Nat.zero_le _, Nat.zero_le _⟩ (JN.sub (wst' := (cX a cI no u51_mi ke hk sg lz rn rs rf be fh oh)) [9, 10, 11, 12, 13, 14, 15, 16] rfl rfl rfl rfl) 9 rfl ⟨rfl, rfl⟩ rfl rfl (Nat.le_of_ble_eq_true rfl) (fun H locs hP hD hS => ?_)
      replace hP : va_P D vwCl (cX a cI no u51_mi ke hk sg lz rn rs rf be fh oh) H := hP
      replace hD : va_D A (cX a cI no u51_mi ke hk sg lz rn rs rf be fh oh) := hD
      refine lv_aload_n hx hb dX3_thinkOut_54 rfl (lv_at hl 0 rfl) ?_
      refine va_get (D := D) (ci := 3) (v := .ref (a 31)) (C := RX3) (T := TX3) (N := 11) hx hb hts i3 hown hK hP 0 rfl rfl 9 (by decide) f51 (fun _ h9 => h9) rfl dX3_thinkOut_55 ?_
      refine lv_iload hx hb dX3_thinkOut_58 (lv_at hl 4 rfl) ?_
      refine lv_aload_n hx hb dX3_thinkOut_60 rfl (lv_at hl 0 rfl) ?_
      refine va_get (D := D) (ci := 3) (v := .ref (a 9)) (C := RX3) (T := TX3) (N := 11) hx hb hts i3 hown hK hP 0 rfl rfl 1 (by decide) f16 (fun _ h9 => h9) rfl dX3_thinkOut_61 ?_
      refine lv_iload_n hx hb dX3_thinkOut_64 rfl (lv_at hl 1 rfl) ?_
      obtain ⟨r65, q65, h⟩ := bnd1_inv h
      refine kVI (n := 1) (As := [.int p1]) (rest := [.int p4, .ref (a 31)]) CF hl hK hP hD hS hA (c_X2_wholeOf l D cI (a 9) (a 10) (a 11) (a 12) (a 13) (a 14) (a 15) (a 16) u51_mi p1 r65 q65) gX3_thinkOut_X2_wholeOf rfl dX3_thinkOut_65 (by decide +kernel) ⟨⟨rfl, rfl⟩, ⟨Nat.le_of_ble_eq_true rfl, Nat.le_of_ble_eq_true rfl⟩, Nat.zero_le _, Nat.zero_le _⟩ (JN.ro [9, 10, 11, 12, 13, 14, 15, 16] rfl rfl) 9 rfl ⟨rfl, rfl⟩ rfl rfl (Nat.le_of_ble_eq_true rfl) (fun H locs hP hD hS => ?_)
      obtain ⟨g68, h⟩ := chk_inv h
      refine va_iast (n := 4) (f := fh) hx hb hK hP hD hS 31 0 rfl rfl g68 dX3_thinkOut_68 (fun H locs hP hD hS => ?_)
      replace hP : va_P D vwCl (cX a cI no u51_mi ke hk sg lz rn rs rf be (upd fh (Int32.toNatClampNeg p4) r65) oh) H := hP
      replace hD : va_D A (cX a cI no u51_mi ke hk sg lz rn rs rf be (upd fh (Int32.toNatClampNeg p4) r65) oh) := hD
      refine lv_aload_n hx hb dX3_thinkOut_69 rfl (lv_at hl 0 rfl) ?_
      refine va_get (D := D) (ci := 3) (v := .ref (a 32)) (C := RX3) (T := TX3) (N := 11) hx hb hts i3 hown hK hP 0 rfl rfl 10 (by decide) f54 (fun _ h9 => h9) rfl dX3_thinkOut_70 ?_
      refine lv_iload hx hb dX3_thinkOut_73 (lv_at hl 4 rfl) ?_
      refine lv_aload_n hx hb dX3_thinkOut_75 rfl (lv_at hl 0 rfl) ?_
      refine va_get (D := D) (ci := 3) (v := .ref (a 9)) (C := RX3) (T := TX3) (N := 11) hx hb hts i3 hown hK hP 0 rfl rfl 1 (by decide) f16 (fun _ h9 => h9) rfl dX3_thinkOut_76 ?_
      refine lv_iload_n hx hb dX3_thinkOut_79 rfl (lv_at hl 2 rfl) ?_
      obtain ⟨r80, q80, h⟩ := bnd1_inv h
      refine kVI (n := 1) (As := [.int p2]) (rest := [.int p4, .ref (a 32)]) CF hl hK hP hD hS hA (c_X2_wholeOf l D cI (a 9) (a 10) (a 11) (a 12) (a 13) (a 14) (a 15) (a 16) u51_mi p2 r80 q80) gX3_thinkOut_X2_wholeOf rfl dX3_thinkOut_80 (by decide +kernel) ⟨⟨rfl, rfl⟩, ⟨Nat.le_of_ble_eq_true rfl, Nat.le_of_ble_eq_true rfl⟩, Nat.zero_le _, Nat.zero_le _⟩ (JN.ro [9, 10, 11, 12, 13, 14, 15, 16] rfl rfl) 9 rfl ⟨rfl, rfl⟩ rfl rfl (Nat.le_of_ble_eq_true rfl) (fun H locs hP hD hS => ?_)
      obtain ⟨g83, h⟩ := chk_inv h
      refine va_iast (n := 4) (f := oh) hx hb hK hP hD hS 32 0 rfl rfl g83 dX3_thinkOut_83 (fun H locs hP hD hS => ?_)
      replace hP : va_P D vwCl (cX a cI no u51_mi ke hk sg lz rn rs rf be (upd fh (Int32.toNatClampNeg p4) r65) (upd oh (Int32.toNatClampNeg p4) r80)) H := hP
      replace hD : va_D A (cX a cI no u51_mi ke hk sg lz rn rs rf be (upd fh (Int32.toNatClampNeg p4) r65) (upd oh (Int32.toNatClampNeg p4) r80)) := hD
      obtain ⟨rfl, rfl, rfl⟩ := ret3 h
      exact rV hQ hx hb hr hlocks hAe hP hS dX3_thinkOut_84
    · replace h := fx_ite_f c31 h
      refine lv_aload_n hx hb dX3_thinkOut_34 rfl (lv_at hl 0 rfl) ?_
      refine va_get (D := D) (ci := 3) (v := .ref (a 9)) (C := RX3) (T := TX3) (N := 11) hx hb hts i3 hown hK hP 0 rfl rfl 1 (by decide) f16 (fun _ h9 => h9) rfl dX3_thinkOut_35 ?_
      refine lv_iload_n hx hb dX3_thinkOut_38 rfl (lv_at hl 1 rfl) ?_
      refine lv_iload_n hx hb dX3_thinkOut_39 rfl (lv_at hl 2 rfl) ?_
      obtain ⟨u40_mi, q40, h⟩ := bnd1_inv h
      refine kVV (n := 2) (As := [.int p1, .int p2]) (rest := []) CF hl hK hP hD hS hA (c_X2_breakLeastOf l D cI (a 9) (a 10) (a 11) (a 12) (a 13) (a 14) (a 15) (a 16) u24_mi p1 p2 u40_mi q40) gX3_thinkOut_X2_breakLeastOf rfl dX3_thinkOut_40 (by decide +kernel) ⟨⟨rfl, rfl⟩, ⟨Nat.le_of_ble_eq_true rfl, Nat.le_of_ble_eq_true rfl⟩, Nat.zero_le _, Nat.zero_le _⟩ (JN.sub (wst' := (cX a cI no u40_mi ke hk sg lz rn rs rf be fh oh)) [9, 10, 11, 12, 13, 14, 15, 16] rfl rfl rfl rfl) 9 rfl ⟨rfl, rfl⟩ rfl rfl (Nat.le_of_ble_eq_true rfl) (fun H locs hP hD hS => ?_)
      replace hP : va_P D vwCl (cX a cI no u40_mi ke hk sg lz rn rs rf be fh oh) H := hP
      replace hD : va_D A (cX a cI no u40_mi ke hk sg lz rn rs rf be fh oh) := hD
      refine lv_aload_n hx hb dX3_thinkOut_43 rfl (lv_at hl 0 rfl) ?_
      refine va_get (D := D) (ci := 3) (v := .ref (a 9)) (C := RX3) (T := TX3) (N := 11) hx hb hts i3 hown hK hP 0 rfl rfl 1 (by decide) f16 (fun _ h9 => h9) rfl dX3_thinkOut_44 ?_
      refine lv_iload_n hx hb dX3_thinkOut_47 rfl (lv_at hl 3 rfl) ?_
      refine lv_iconst (v := 1) hx hb dX3_thinkOut_48 (by decide) ?_
      refine lv_bipush (v := (-9)) hx hb dX3_thinkOut_49 (by decide) ?_
      obtain ⟨u51_mi, q51, h⟩ := bnd1_inv h
      refine kVV (n := 3) (As := [.int p3, .int (1 : Int32), .int (-9 : Int32)]) (rest := []) CF hl hK hP hD hS hA (c_X2_pass l D cI (a 9) (a 10) (a 11) (a 12) (a 13) (a 14) (a 15) (a 16) u40_mi p3 (1 : Int32) (-9 : Int32) u51_mi q51) gX3_thinkOut_X2_pass rfl dX3_thinkOut_51 (by decide +kernel) ⟨⟨rfl, rfl⟩, ⟨Nat.le_of_ble_eq_true rfl, Nat.le_of_ble_eq_true rfl⟩, Nat.zero_le _, Nat.zero_le _⟩ (JN.sub (wst' := (cX a cI no u51_mi ke hk sg lz rn rs rf be fh oh)) [9, 10, 11, 12, 13, 14, 15, 16] rfl rfl rfl rfl) 9 rfl ⟨rfl, rfl⟩ rfl rfl (Nat.le_of_ble_eq_true rfl) (fun H locs hP hD hS => ?_)
      replace hP : va_P D vwCl (cX a cI no u51_mi ke hk sg lz rn rs rf be fh oh) H := hP
      replace hD : va_D A (cX a cI no u51_mi ke hk sg lz rn rs rf be fh oh) := hD
      refine lv_aload_n hx hb dX3_thinkOut_54 rfl (lv_at hl 0 rfl) ?_
      refine va_get (D := D) (ci := 3) (v := .ref (a 31)) (C := RX3) (T := TX3) (N := 11) hx hb hts i3 hown hK hP 0 rfl rfl 9 (by decide) f51 (fun _ h9 => h9) rfl dX3_thinkOut_55 ?_
      refine lv_iload hx hb dX3_thinkOut_58 (lv_at hl 4 rfl) ?_
      refine lv_aload_n hx hb dX3_thinkOut_60 rfl (lv_at hl 0 rfl) ?_
      refine va_get (D := D) (ci := 3) (v := .ref (a 9)) (C := RX3) (T := TX3) (N := 11) hx hb hts i3 hown hK hP 0 rfl rfl 1 (by decide) f16 (fun _ h9 => h9) rfl dX3_thinkOut_61 ?_
      refine lv_iload_n hx hb dX3_thinkOut_64 rfl (lv_at hl 1 rfl) ?_
      obtain ⟨r65, q65, h⟩ := bnd1_inv h
      refine kVI (n := 1) (As := [.int p1]) (rest := [.int p4, .ref (a 31)]) CF hl hK hP hD hS hA (c_X2_wholeOf l D cI (a 9) (a 10) (a 11) (a 12) (a 13) (a 14) (a 15) (a 16) u51_mi p1 r65 q65) gX3_thinkOut_X2_wholeOf rfl dX3_thinkOut_65 (by decide +kernel) ⟨⟨rfl, rfl⟩, ⟨Nat.le_of_ble_eq_true rfl, Nat.le_of_ble_eq_true rfl⟩, Nat.zero_le _, Nat.zero_le _⟩ (JN.ro [9, 10, 11, 12, 13, 14, 15, 16] rfl rfl) 9 rfl ⟨rfl, rfl⟩ rfl rfl (Nat.le_of_ble_eq_true rfl) (fun H locs hP hD hS => ?_)
      obtain ⟨g68, h⟩ := chk_inv h
      refine va_iast (n := 4) (f := fh) hx hb hK hP hD hS 31 0 rfl rfl g68 dX3_thinkOut_68 (fun H locs hP hD hS => ?_)
      replace hP : va_P D vwCl (cX a cI no u51_mi ke hk sg lz rn rs rf be (upd fh (Int32.toNatClampNeg p4) r65) oh) H := hP
      replace hD : va_D A (cX a cI no u51_mi ke hk sg lz rn rs rf be (upd fh (Int32.toNatClampNeg p4) r65) oh) := hD
      refine lv_aload_n hx hb dX3_thinkOut_69 rfl (lv_at hl 0 rfl) ?_
      refine va_get (D := D) (ci := 3) (v := .ref (a 32)) (C := RX3) (T := TX3) (N := 11) hx hb hts i3 hown hK hP 0 rfl rfl 10 (by decide) f54 (fun _ h9 => h9) rfl dX3_thinkOut_70 ?_
      refine lv_iload hx hb dX3_thinkOut_73 (lv_at hl 4 rfl) ?_
      refine lv_aload_n hx hb dX3_thinkOut_75 rfl (lv_at hl 0 rfl) ?_
      refine va_get (D := D) (ci := 3) (v := .ref (a 9)) (C := RX3) (T := TX3) (N := 11) hx hb hts i3 hown hK hP 0 rfl rfl 1 (by decide) f16 (fun _ h9 => h9) rfl dX3_thinkOut_76 ?_
      refine lv_iload_n hx hb dX3_thinkOut_79 rfl (lv_at hl 2 rfl) ?_
      obtain ⟨r80, q80, h⟩ := bnd1_inv h
      refine kVI (n := 1) (As := [.int p2]) (rest := [.int p4, .ref (a 32)]) CF hl hK hP hD hS hA (c_X2_wholeOf l D cI (a 9) (a 10) (a 11) (a 12) (a 13) (a 14) (a 15) (a 16) u51_mi p2 r80 q80) gX3_thinkOut_X2_wholeOf rfl dX3_thinkOut_80 (by decide +kernel) ⟨⟨rfl, rfl⟩, ⟨Nat.le_of_ble_eq_true rfl, Nat.le_of_ble_eq_true rfl⟩, Nat.zero_le _, Nat.zero_le _⟩ (JN.ro [9, 10, 11, 12, 13, 14, 15, 16] rfl rfl) 9 rfl ⟨rfl, rfl⟩ rfl rfl (Nat.le_of_ble_eq_true rfl) (fun H locs hP hD hS => ?_)
      obtain ⟨g83, h⟩ := chk_inv h
      refine va_iast (n := 4) (f := oh) hx hb hK hP hD hS 32 0 rfl rfl g83 dX3_thinkOut_83 (fun H locs hP hD hS => ?_)
      replace hP : va_P D vwCl (cX a cI no u51_mi ke hk sg lz rn rs rf be (upd fh (Int32.toNatClampNeg p4) r65) (upd oh (Int32.toNatClampNeg p4) r80)) H := hP
      replace hD : va_D A (cX a cI no u51_mi ke hk sg lz rn rs rf be (upd fh (Int32.toNatClampNeg p4) r65) (upd oh (Int32.toNatClampNeg p4) r80)) := hD
      obtain ⟨rfl, rfl, rfl⟩ := ret3 h
      exact rV hQ hx hb hr hlocks hAe hP hS dX3_thinkOut_84
/-! X3_two -/
set_option maxHeartbeats 4000000 in
set_option maxRecDepth 100000 in
theorem c_X3_two (l : Launch) (D : va_G) (cI : ClassId) (a : Nat → Nat) (no : SV) (mi : SV) (ke : SV) (hk : Int32) (sg : (Nat → Int32)) (lz : Int32) (rn : (Nat → Int32)) (rs : Int32) (rf : (Nat → Int32)) (be : (Nat → Int32)) (fh : (Nat → Int32)) (oh : (Nat → Int32)) (p1 : Int32) (p2 : Int32) (p3 : Int32) (res : Int32) (u_mi : SV) (u_rf : (Nat → Int32)) (u_fh : (Nat → Int32)) (u_oh : (Nat → Int32)) (h : M_X3_two no mi rf fh oh p1 p2 p3 = some (res, u_mi, u_rf, u_fh, u_oh)) : mI l yX3_two wsX3_two { frames := 6, cells := 0, slots := 0, locals := 139 } D cI [.ref (a 0), .int p1, .int p2, .int p3] (cX a cI no mi ke hk sg lz rn rs rf be fh oh) (cX a cI no u_mi ke hk sg lz rn rs u_rf be u_fh u_oh) res := by
  intro sz
  refine mStart (cc := cX3_two) (maxL := 6) (ret := (some .int)) (own := RX3) (by decide) rfl rfl (Nat.le_of_ble_eq_true rfl) (lv := [(0, .ref (a 0)), (1, .int p1), (2, .int p2), (3, .int p3)]) rfl ?_
  intro p e s m args below meth c A ls Q H locs CF hr hlocks hK hP hD hS hA hAe hl hQ
  obtain ⟨hx, hb, hml, hown, hts⟩ := id CF
  have f10 := hts (.fieldLink RX3 10 "MendAnothersBreaking" "now" "LMendAnothersBreaking$State;") (List.mem_of_getElem? (i := 1) rfl)
  have f51 := hts (.fieldLink RX3 51 "MendAnothersBreaking" "firstHas" "[I") (List.mem_of_getElem? (i := 2) rfl)
  have f54 := hts (.fieldLink RX3 54 "MendAnothersBreaking" "otherHas" "[I") (List.mem_of_getElem? (i := 3) rfl)
  have i3 : ∀ w ∈ wsX30, w ∈ wsX3_two := fun w h => List.mem_cons_of_mem _ (List.mem_append_left _ (List.mem_append_right _ h))
  have L81 : ∀ (n : Nat) (mi : SV) (rf : (Nat → Int32)) (fh : (Nat → Int32)) (oh : (Nat → Int32)) (x5 : Int32), fuel (fun _ => none) (B_X3_two_81 no mi rf fh oh) n x5 = some (res, u_mi, u_rf, u_fh, u_oh) → 
      ∀ (H : Heap) (locs : List Loc) (ls : Array Slot), va_P D vwCl (cX a cI no mi ke hk sg lz rn rs rf be fh oh) H → va_D A (cX a cI no mi ke hk sg lz rn rs rf be fh oh) → va_S A s.heap H locs → lv_has ls 6 [(0, .ref (a 0)), (5, .int x5)] → W p l e { frames := 6, cells := 0, slots := 0, locals := 139 } s m args below meth c H locs 0 0 Q (F0 m 81 ls []) := by
    intro n
    induction n with
    | zero =>
      intro mi rf fh oh x5 h
      exact nomatch (show (none : Option (Int32 × SV × (Nat → Int32) × (Nat → Int32) × (Nat → Int32))) = some (res, u_mi, u_rf, u_fh, u_oh) from h)
    | succ n ih =>
      intro mi rf fh oh x5 h  H locs ls hP hD hS hl
      replace h : B_X3_two_81 no mi rf fh oh (fuel (fun _ => none) (B_X3_two_81 no mi rf fh oh) n) x5 = some (res, u_mi, u_rf, u_fh, u_oh) := h
      unfold B_X3_two_81 at h
      refine lv_iload hx hb dX3_two_81 (lv_at hl 1 rfl) ?_
      refine lv_iconst (v := 4) hx hb dX3_two_83 (by decide) ?_
      refine lv_icmp_ge (tgt := 144) hx hb dX3_two_84 (by decide) (fun c84 => ?_) (fun c84 => ?_)
      · replace h := fx_ite_t c84 h
        refine lv_bipush (v := (-9)) hx hb dX3_two_144 (by decide) ?_
        obtain ⟨rfl, rfl, rfl, rfl, rfl⟩ := ret5 h
        exact rI hQ hx hb hr hlocks hAe hP hS rfl rfl dX3_two_146
      · replace h := fx_ite_f c84 h
        refine lv_aload_n hx hb dX3_two_87 rfl (lv_at hl 0 rfl) ?_
        refine va_get (D := D) (ci := 3) (v := .ref (a 31)) (C := RX3) (T := TX3) (N := 11) hx hb hts i3 hown hK hP 0 rfl rfl 9 (by decide) f51 (fun _ h9 => h9) rfl dX3_two_88 ?_
        refine lv_iload hx hb dX3_two_91 (lv_at hl 1 rfl) ?_
        obtain ⟨g93, h⟩ := chk_inv h
        refine va_iald (n := 4) (f := fh) hx hb hK hP 31 0 rfl rfl g93 dX3_two_93 ?_
        refine lv_aload_n hx hb dX3_two_94 rfl (lv_at hl 0 rfl) ?_
        refine va_get (D := D) (ci := 3) (v := .ref (a 31)) (C := RX3) (T := TX3) (N := 11) hx hb hts i3 hown hK hP 0 rfl rfl 9 (by decide) f51 (fun _ h9 => h9) rfl dX3_two_95 ?_
        refine lv_iload hx hb dX3_two_98 (lv_at hl 1 rfl) ?_
        refine lv_iconst (v := 2) hx hb dX3_two_100 (by decide) ?_
        refine lv_ixor hx hb dX3_two_101 ?_
        obtain ⟨g102, h⟩ := chk_inv h
        refine va_iald (n := 4) (f := fh) hx hb hK hP 31 0 rfl rfl g102 dX3_two_102 ?_
        refine lv_icmp_lt (tgt := 138) hx hb dX3_two_103 (by decide) (fun c103 => ?_) (fun c103 => ?_)
        · replace h := fx_ite_t c103 h
          refine lv_iinc (v := (x5 + 1)) (lv' := [(5, .int (x5 + 1)), (0, .ref (a 0))]) hx hb dX3_two_138 hl (k := 1) rfl (by first | rfl | decide) (by decide) rfl (fun ls hl => ?_)
          refine lv_goto (tgt := 81) hx hb dX3_two_141 (by decide) ?_
          exact ih _ _ _ _ _ h  _ _ _ hP hD hS (lv_sub hl [1, 0] rfl)
        · replace h := fx_ite_f c103 h
          refine lv_aload_n hx hb dX3_two_106 rfl (lv_at hl 0 rfl) ?_
          refine va_get (D := D) (ci := 3) (v := .ref (a 32)) (C := RX3) (T := TX3) (N := 11) hx hb hts i3 hown hK hP 0 rfl rfl 10 (by decide) f54 (fun _ h9 => h9) rfl dX3_two_107 ?_
          refine lv_iload hx hb dX3_two_110 (lv_at hl 1 rfl) ?_
          obtain ⟨g112, h⟩ := chk_inv h
          refine va_iald (n := 4) (f := oh) hx hb hK hP 32 0 rfl rfl g112 dX3_two_112 ?_
          refine lv_aload_n hx hb dX3_two_113 rfl (lv_at hl 0 rfl) ?_
          refine va_get (D := D) (ci := 3) (v := .ref (a 32)) (C := RX3) (T := TX3) (N := 11) hx hb hts i3 hown hK hP 0 rfl rfl 10 (by decide) f54 (fun _ h9 => h9) rfl dX3_two_114 ?_
          refine lv_iload hx hb dX3_two_117 (lv_at hl 1 rfl) ?_
          refine lv_iconst (v := 1) hx hb dX3_two_119 (by decide) ?_
          refine lv_ixor hx hb dX3_two_120 ?_
          obtain ⟨g121, h⟩ := chk_inv h
          refine va_iald (n := 4) (f := oh) hx hb hK hP 32 0 rfl rfl g121 dX3_two_121 ?_
          refine lv_icmp_lt (tgt := 138) hx hb dX3_two_122 (by decide) (fun c122 => ?_) (fun c122 => ?_)
          · replace h := fx_ite_t c122 h
            refine lv_iinc (v := (x5 + 1)) (lv' := [(5, .int (x5 + 1)), (0, .ref (a 0))]) hx hb dX3_two_138 hl (k := 1) rfl (by first | rfl | decide) (by decide) rfl (fun ls hl => ?_)
            refine lv_goto (tgt := 81) hx hb dX3_two_141 (by decide) ?_
            exact ih _ _ _ _ _ h  _ _ _ hP hD hS (lv_sub hl [1, 0] rfl)
          · replace h := fx_ite_f c122 h
            refine lv_bipush (v := 10) hx hb dX3_two_125 (by decide) ?_
            refine lv_iload hx hb dX3_two_127 (lv_at hl 1 rfl) ?_
            refine lv_iconst (v := 2) hx hb dX3_two_129 (by decide) ?_
            refine lv_idiv hx hb dX3_two_130 (by decide) ?_
            refine lv_imul hx hb dX3_two_131 ?_
            refine lv_iload hx hb dX3_two_132 (lv_at hl 1 rfl) ?_
            refine lv_iconst (v := 2) hx hb dX3_two_134 (by decide) ?_
            refine lv_irem hx hb dX3_two_135 (by decide) ?_
            refine lv_iadd hx hb dX3_two_136 ?_
            obtain ⟨rfl, rfl, rfl, rfl, rfl⟩ := ret5 h
            exact rI hQ hx hb hr hlocks hAe hP hS rfl rfl dX3_two_137
  have L57 : ∀ (n : Nat) (x1 : Int32) (x2 : Int32) (x3 : Int32) (rf : (Nat → Int32)) (x5 : Int32) (mi : SV) (fh : (Nat → Int32)) (oh : (Nat → Int32)), fuel (fun _ _ _ _ => none) (B_X3_two_57 x1 x2 x3 no rf) n x5 mi fh oh = some (res, u_mi, u_rf, u_fh, u_oh) → 
      ∀ (H : Heap) (locs : List Loc) (ls : Array Slot), va_P D vwCl (cX a cI no mi ke hk sg lz rn rs rf be fh oh) H → va_D A (cX a cI no mi ke hk sg lz rn rs rf be fh oh) → va_S A s.heap H locs → lv_has ls 6 [(0, .ref (a 0)), (1, .int x1), (2, .int x2), (3, .int x3), (5, .int x5)] → W p l e { frames := 6, cells := 0, slots := 0, locals := 139 } s m args below meth c H locs 0 0 Q (F0 m 57 ls []) := by
    intro n
    induction n with
    | zero =>
      intro x1 x2 x3 rf x5 mi fh oh h
      exact nomatch (show (none : Option (Int32 × SV × (Nat → Int32) × (Nat → Int32) × (Nat → Int32))) = some (res, u_mi, u_rf, u_fh, u_oh) from h)
    | succ n ih =>
      intro x1 x2 x3 rf x5 mi fh oh h  H locs ls hP hD hS hl
      replace h : B_X3_two_57 x1 x2 x3 no rf (fuel (fun _ _ _ _ => none) (B_X3_two_57 x1 x2 x3 no rf) n) x5 mi fh oh = some (res, u_mi, u_rf, u_fh, u_oh) := h
      unfold B_X3_two_57 at h
      refine lv_iload hx hb dX3_two_57 (lv_at hl 4 rfl) ?_
      refine lv_iconst (v := 4) hx hb dX3_two_59 (by decide) ?_
      refine lv_icmp_ge (tgt := 78) hx hb dX3_two_60 (by decide) (fun c60 => ?_) (fun c60 => ?_)
      · replace h := fx_ite_t c60 h
        refine lv_iconst (v := 0) hx hb dX3_two_78 (by decide) ?_
        refine lv_istore (lv' := [(5, .int (0 : Int32)), (0, .ref (a 0)), (1, .int x1), (2, .int x2), (3, .int x3)]) hx hb dX3_two_79 hl (by decide) rfl (fun ls hl => ?_)
        exact L81 FU _ _ _ _ _ h  _ _ _ hP hD hS (lv_sub hl [1, 0] rfl)
      · replace h := fx_ite_f c60 h
        refine lv_aload_n hx hb dX3_two_63 rfl (lv_at hl 0 rfl) ?_
        refine lv_iload_n hx hb dX3_two_64 rfl (lv_at hl 1 rfl) ?_
        refine lv_iload_n hx hb dX3_two_65 rfl (lv_at hl 2 rfl) ?_
        refine lv_iload_n hx hb dX3_two_66 rfl (lv_at hl 3 rfl) ?_
        refine lv_iload hx hb dX3_two_67 (lv_at hl 4 rfl) ?_
        obtain ⟨u69_mi, u69_fh, u69_oh, q69, h⟩ := bnd3_inv h
        refine kVV (n := 4) (As := [.int x1, .int x2, .int x3, .int x5]) (rest := []) CF hl hK hP hD hS hA (c_X3_thinkOut l D cI a no mi ke hk sg lz rn rs rf be fh oh x1 x2 x3 x5 u69_mi u69_fh u69_oh q69) gX3_two_X3_thinkOut rfl dX3_two_69 (by decide +kernel) ⟨⟨rfl, rfl⟩, ⟨Nat.le_of_ble_eq_true rfl, Nat.le_of_ble_eq_true rfl⟩, Nat.zero_le _, Nat.zero_le _⟩ (JN.whole (w1 := (cX a cI no u69_mi ke hk sg lz rn rs rf be u69_fh u69_oh)) rfl) 0 rfl ⟨rfl, rfl⟩ rfl rfl (Nat.le_of_ble_eq_true rfl) (fun H locs hP hD hS => ?_)
        replace hP : va_P D vwCl (cX a cI no u69_mi ke hk sg lz rn rs rf be u69_fh u69_oh) H := hP
        replace hD : va_D A (cX a cI no u69_mi ke hk sg lz rn rs rf be u69_fh u69_oh) := hD
        refine lv_iinc (v := (x5 + 1)) (lv' := [(5, .int (x5 + 1)), (0, .ref (a 0)), (1, .int x1), (2, .int x2), (3, .int x3)]) hx hb dX3_two_72 hl (k := 4) rfl (by first | rfl | decide) (by decide) rfl (fun ls hl => ?_)
        refine lv_goto (tgt := 57) hx hb dX3_two_75 (by decide) ?_
        exact ih _ _ _ _ _ _ _ _ h  _ _ _ hP hD hS (lv_sub hl [1, 2, 3, 4, 0] rfl)
  unfold M_X3_two at h
  refine lv_aload_n hx hb dX3_two_0 rfl (lv_at hl 0 rfl) ?_
  refine va_get (D := D) (ci := 3) (v := .ref (a 1)) (C := RX3) (T := TX3) (N := 11) hx hb hts i3 hown hK hP 0 rfl rfl 0 (by decide) f10 (fun _ h9 => h9) rfl dX3_two_1 ?_
  refine lv_iload_n hx hb dX3_two_4 rfl (lv_at hl 1 rfl) ?_
  obtain ⟨r5, q5, h⟩ := bnd1_inv h
  refine kVI (n := 1) (As := [.int p1]) (rest := []) CF hl hK hP hD hS hA (c_X2_isPerson l D cI (a 1) (a 2) (a 3) (a 4) (a 5) (a 6) (a 7) (a 8) no p1 r5 q5) gX3_two_X2_isPerson rfl dX3_two_5 (by decide +kernel) ⟨⟨rfl, rfl⟩, ⟨Nat.le_of_ble_eq_true rfl, Nat.le_of_ble_eq_true rfl⟩, Nat.zero_le _, Nat.zero_le _⟩ (JN.ro [1, 2, 3, 4, 5, 6, 7, 8] rfl rfl) 1 rfl ⟨rfl, rfl⟩ rfl rfl (Nat.le_of_ble_eq_true rfl) (fun H locs hP hD hS => ?_)
  refine lv_if_eq (tgt := 27) hx hb dX3_two_8 (by decide) (fun c8 => ?_) (fun c8 => ?_)
  · replace h := fx_ite_t c8 h
    refine lv_aload_n hx hb dX3_two_27 rfl (lv_at hl 0 rfl) ?_
    refine lv_iconst (v := (-1)) hx hb dX3_two_28 (by decide) ?_
    obtain ⟨r29, u29_rf, q29, h⟩ := bnd2_inv h
    refine kVI (n := 1) (As := [.int (-1 : Int32)]) (rest := []) CF hl hK hP hD hS hA (c_X3_refuse l D cI a no mi ke hk sg lz rn rs rf be fh oh (-1 : Int32) r29 u29_rf q29) gX3_two_X3_refuse rfl dX3_two_29 (by decide +kernel) ⟨⟨rfl, rfl⟩, ⟨Nat.le_of_ble_eq_true rfl, Nat.le_of_ble_eq_true rfl⟩, Nat.zero_le _, Nat.zero_le _⟩ (JN.whole (w1 := (cX a cI no mi ke hk sg lz rn rs u29_rf be fh oh)) rfl) 0 rfl ⟨rfl, rfl⟩ rfl rfl (Nat.le_of_ble_eq_true rfl) (fun H locs hP hD hS => ?_)
    replace hP : va_P D vwCl (cX a cI no mi ke hk sg lz rn rs u29_rf be fh oh) H := hP
    replace hD : va_D A (cX a cI no mi ke hk sg lz rn rs u29_rf be fh oh) := hD
    obtain ⟨rfl, rfl, rfl, rfl, rfl⟩ := ret5 h
    exact rI hQ hx hb hr hlocks hAe hP hS rfl rfl dX3_two_32
  · replace h := fx_ite_f c8 h
    refine lv_aload_n hx hb dX3_two_11 rfl (lv_at hl 0 rfl) ?_
    refine va_get (D := D) (ci := 3) (v := .ref (a 1)) (C := RX3) (T := TX3) (N := 11) hx hb hts i3 hown hK hP 0 rfl rfl 0 (by decide) f10 (fun _ h9 => h9) rfl dX3_two_12 ?_
    refine lv_iload_n hx hb dX3_two_15 rfl (lv_at hl 2 rfl) ?_
    obtain ⟨r16, q16, h⟩ := bnd1_inv h
    refine kVI (n := 1) (As := [.int p2]) (rest := []) CF hl hK hP hD hS hA (c_X2_isPerson l D cI (a 1) (a 2) (a 3) (a 4) (a 5) (a 6) (a 7) (a 8) no p2 r16 q16) gX3_two_X2_isPerson rfl dX3_two_16 (by decide +kernel) ⟨⟨rfl, rfl⟩, ⟨Nat.le_of_ble_eq_true rfl, Nat.le_of_ble_eq_true rfl⟩, Nat.zero_le _, Nat.zero_le _⟩ (JN.ro [1, 2, 3, 4, 5, 6, 7, 8] rfl rfl) 1 rfl ⟨rfl, rfl⟩ rfl rfl (Nat.le_of_ble_eq_true rfl) (fun H locs hP hD hS => ?_)
    refine lv_if_eq (tgt := 27) hx hb dX3_two_19 (by decide) (fun c19 => ?_) (fun c19 => ?_)
    · replace h := fx_ite_t c19 h
      refine lv_aload_n hx hb dX3_two_27 rfl (lv_at hl 0 rfl) ?_
      refine lv_iconst (v := (-1)) hx hb dX3_two_28 (by decide) ?_
      obtain ⟨r29, u29_rf, q29, h⟩ := bnd2_inv h
      refine kVI (n := 1) (As := [.int (-1 : Int32)]) (rest := []) CF hl hK hP hD hS hA (c_X3_refuse l D cI a no mi ke hk sg lz rn rs rf be fh oh (-1 : Int32) r29 u29_rf q29) gX3_two_X3_refuse rfl dX3_two_29 (by decide +kernel) ⟨⟨rfl, rfl⟩, ⟨Nat.le_of_ble_eq_true rfl, Nat.le_of_ble_eq_true rfl⟩, Nat.zero_le _, Nat.zero_le _⟩ (JN.whole (w1 := (cX a cI no mi ke hk sg lz rn rs u29_rf be fh oh)) rfl) 0 rfl ⟨rfl, rfl⟩ rfl rfl (Nat.le_of_ble_eq_true rfl) (fun H locs hP hD hS => ?_)
      replace hP : va_P D vwCl (cX a cI no mi ke hk sg lz rn rs u29_rf be fh oh) H := hP
      replace hD : va_D A (cX a cI no mi ke hk sg lz rn rs u29_rf be fh oh) := hD
      obtain ⟨rfl, rfl, rfl, rfl, rfl⟩ := ret5 h
      exact rI hQ hx hb hr hlocks hAe hP hS rfl rfl dX3_two_32
    · replace h := fx_ite_f c19 h
      refine lv_iload_n hx hb dX3_two_22 rfl (lv_at hl 1 rfl) ?_
      refine lv_iload_n hx hb dX3_two_23 rfl (lv_at hl 2 rfl) ?_
      refine lv_icmp_ne (tgt := 33) hx hb dX3_two_24 (by decide) (fun c24 => ?_) (fun c24 => ?_)
      · replace h := fx_ite_f c24 h
        refine lv_iload_n hx hb dX3_two_33 rfl (lv_at hl 3 rfl) ?_
        refine lv_iconst (v := 0) hx hb dX3_two_34 (by decide) ?_
        refine lv_bipush (v := 99) hx hb dX3_two_35 (by decide) ?_
        obtain ⟨r37, q37, h⟩ := bnd1_inv h
        refine kSI (n := 3) (As := [.int p3, .int (0 : Int32), .int (99 : Int32)]) (rest := []) CF hl hK hP hD hS hA (c_X3_outside l D cI   p3 (0 : Int32) (99 : Int32) r37 q37) gX3_two_X3_outside rfl dX3_two_37 (by decide +kernel) ⟨⟨rfl, rfl⟩, ⟨Nat.le_of_ble_eq_true rfl, Nat.le_of_ble_eq_true rfl⟩, Nat.zero_le _, Nat.zero_le _⟩ (JN.ro [] rfl rfl) rfl rfl (Nat.le_of_ble_eq_true rfl) (fun H locs hP hD hS => ?_)
        refine lv_istore (lv' := [(4, .int r37), (0, .ref (a 0)), (1, .int p1), (2, .int p2), (3, .int p3)]) hx hb dX3_two_40 hl (by decide) rfl (fun ls hl => ?_)
        refine lv_iload hx hb dX3_two_42 (lv_at hl 0 rfl) ?_
        refine lv_if_eq (tgt := 54) hx hb dX3_two_44 (by decide) (fun c44 => ?_) (fun c44 => ?_)
        · replace h := fx_ite_t c44 h
          refine lv_iconst (v := 0) hx hb dX3_two_54 (by decide) ?_
          refine lv_istore (lv' := [(5, .int (0 : Int32)), (4, .int r37), (0, .ref (a 0)), (1, .int p1), (2, .int p2), (3, .int p3)]) hx hb dX3_two_55 hl (by decide) rfl (fun ls hl => ?_)
          exact L57 FU _ _ _ _ _ _ _ _ h  _ _ _ hP hD hS (lv_sub hl [2, 3, 4, 5, 0] rfl)
        · replace h := fx_ite_f c44 h
          refine lv_aload_n hx hb dX3_two_47 rfl (lv_at hl 1 rfl) ?_
          refine lv_iload hx hb dX3_two_48 (lv_at hl 0 rfl) ?_
          obtain ⟨r50, u50_rf, q50, h⟩ := bnd2_inv h
          refine kVI (n := 1) (As := [.int r37]) (rest := []) CF hl hK hP hD hS hA (c_X3_refuse l D cI a no mi ke hk sg lz rn rs rf be fh oh r37 r50 u50_rf q50) gX3_two_X3_refuse rfl dX3_two_50 (by decide +kernel) ⟨⟨rfl, rfl⟩, ⟨Nat.le_of_ble_eq_true rfl, Nat.le_of_ble_eq_true rfl⟩, Nat.zero_le _, Nat.zero_le _⟩ (JN.whole (w1 := (cX a cI no mi ke hk sg lz rn rs u50_rf be fh oh)) rfl) 0 rfl ⟨rfl, rfl⟩ rfl rfl (Nat.le_of_ble_eq_true rfl) (fun H locs hP hD hS => ?_)
          replace hP : va_P D vwCl (cX a cI no mi ke hk sg lz rn rs u50_rf be fh oh) H := hP
          replace hD : va_D A (cX a cI no mi ke hk sg lz rn rs u50_rf be fh oh) := hD
          obtain ⟨rfl, rfl, rfl, rfl, rfl⟩ := ret5 h
          exact rI hQ hx hb hr hlocks hAe hP hS rfl rfl dX3_two_53
      · replace h := fx_ite_t c24 h
        refine lv_aload_n hx hb dX3_two_27 rfl (lv_at hl 0 rfl) ?_
        refine lv_iconst (v := (-1)) hx hb dX3_two_28 (by decide) ?_
        obtain ⟨r29, u29_rf, q29, h⟩ := bnd2_inv h
        refine kVI (n := 1) (As := [.int (-1 : Int32)]) (rest := []) CF hl hK hP hD hS hA (c_X3_refuse l D cI a no mi ke hk sg lz rn rs rf be fh oh (-1 : Int32) r29 u29_rf q29) gX3_two_X3_refuse rfl dX3_two_29 (by decide +kernel) ⟨⟨rfl, rfl⟩, ⟨Nat.le_of_ble_eq_true rfl, Nat.le_of_ble_eq_true rfl⟩, Nat.zero_le _, Nat.zero_le _⟩ (JN.whole (w1 := (cX a cI no mi ke hk sg lz rn rs u29_rf be fh oh)) rfl) 0 rfl ⟨rfl, rfl⟩ rfl rfl (Nat.le_of_ble_eq_true rfl) (fun H locs hP hD hS => ?_)
        replace hP : va_P D vwCl (cX a cI no mi ke hk sg lz rn rs u29_rf be fh oh) H := hP
        replace hD : va_D A (cX a cI no mi ke hk sg lz rn rs u29_rf be fh oh) := hD
        obtain ⟨rfl, rfl, rfl, rfl, rfl⟩ := ret5 h
        exact rI hQ hx hb hr hlocks hAe hP hS rfl rfl dX3_two_32
/-! X3_weather -/
set_option maxHeartbeats 4000000 in
set_option maxRecDepth 100000 in
theorem c_X3_weather (l : Launch) (D : va_G) (cI : ClassId) (a : Nat → Nat) (no : SV) (mi : SV) (ke : SV) (hk : Int32) (sg : (Nat → Int32)) (lz : Int32) (rn : (Nat → Int32)) (rs : Int32) (rf : (Nat → Int32)) (be : (Nat → Int32)) (fh : (Nat → Int32)) (oh : (Nat → Int32)) (p1 : Int32) (p2 : Int32) (p3 : Int32) (res : Int64) (u_mi : SV) (h : M_X3_weather no mi p1 p2 p3 = some (res, u_mi)) : mL l yX3_weather wsX3_weather { frames := 5, cells := 0, slots := 0, locals := 115 } D cI [.ref (a 0), .int p1, .int p2, .int p3] (cX a cI no mi ke hk sg lz rn rs rf be fh oh) (cX a cI no u_mi ke hk sg lz rn rs rf be fh oh) res := by
  intro sz
  refine mStart (cc := cX3_weather) (maxL := 8) (ret := (some .long)) (own := RX3) (by decide) rfl rfl (Nat.le_of_ble_eq_true rfl) (lv := [(0, .ref (a 0)), (1, .int p1), (2, .int p2), (3, .int p3)]) rfl ?_
  intro p e s m args below meth c A ls Q H locs CF hr hlocks hK hP hD hS hA hAe hl hQ
  obtain ⟨hx, hb, hml, hown, hts⟩ := id CF
  have f10 := hts (.fieldLink RX3 10 "MendAnothersBreaking" "now" "LMendAnothersBreaking$State;") (List.mem_of_getElem? (i := 2) rfl)
  have f16 := hts (.fieldLink RX3 16 "MendAnothersBreaking" "mind" "LMendAnothersBreaking$State;") (List.mem_of_getElem? (i := 1) rfl)
  have i3 : ∀ w ∈ wsX30, w ∈ wsX3_weather := fun w h => List.mem_cons_of_mem _ (List.mem_append_left _ (List.mem_append_right _ h))
  have L17 : ∀ (n : Nat) (x1 : Int32) (x2 : Int32) (x3 : Int32) (x4 : Int64) (x6 : Int32) (mi : SV), fuel (fun _ _ _ => none) (B_X3_weather_17 x1 x2 x3 no) n x4 x6 mi = some (res, u_mi) → 
      ∀ (H : Heap) (locs : List Loc) (ls : Array Slot), va_P D vwCl (cX a cI no mi ke hk sg lz rn rs rf be fh oh) H → va_D A (cX a cI no mi ke hk sg lz rn rs rf be fh oh) → va_S A s.heap H locs → lv_has ls 8 [(0, .ref (a 0)), (1, .int x1), (2, .int x2), (3, .int x3), (4, .long x4), (6, .int x6)] → W p l e { frames := 5, cells := 0, slots := 0, locals := 115 } s m args below meth c H locs 0 0 Q (F0 m 17 ls []) := by
    intro n
    induction n with
    | zero =>
      intro x1 x2 x3 x4 x6 mi h
      exact nomatch (show (none : Option (Int64 × SV)) = some (res, u_mi) from h)
    | succ n ih =>
      intro x1 x2 x3 x4 x6 mi h  H locs ls hP hD hS hl
      replace h : B_X3_weather_17 x1 x2 x3 no (fuel (fun _ _ _ => none) (B_X3_weather_17 x1 x2 x3 no) n) x4 x6 mi = some (res, u_mi) := h
      unfold B_X3_weather_17 at h
      refine lv_iload hx hb dX3_weather_17 (lv_at hl 5 rfl) ?_
      refine lv_iload_n hx hb dX3_weather_19 rfl (lv_at hl 1 rfl) ?_
      refine lv_icmp_ge (tgt := 83) hx hb dX3_weather_20 (by decide) (fun c20 => ?_) (fun c20 => ?_)
      · replace h := fx_ite_t c20 h
        refine lv_lload hx hb dX3_weather_83 (lv_at hl 4 rfl) ?_
        obtain ⟨rfl, rfl⟩ := ret2 h
        exact rL hQ hx hb hr hlocks hAe hP hS rfl dX3_weather_85
      · replace h := fx_ite_f c20 h
        refine lv_iload_n hx hb dX3_weather_23 rfl (lv_at hl 3 rfl) ?_
        refine lv_iload hx hb dX3_weather_24 (lv_at hl 5 rfl) ?_
        refine lv_ishr hx hb dX3_weather_26 ?_
        refine lv_iconst (v := 1) hx hb dX3_weather_27 (by decide) ?_
        refine lv_iand hx hb dX3_weather_28 ?_
        refine lv_if_eq (tgt := 36) hx hb dX3_weather_29 (by decide) (fun c29 => ?_) (fun c29 => ?_)
        · replace h := fx_ite_t c29 h
          refine lv_iconst (v := 0) hx hb dX3_weather_36 (by decide) ?_
          refine lv_istore (lv' := [(7, .int (0 : Int32)), (0, .ref (a 0)), (1, .int x1), (2, .int x2), (3, .int x3), (4, .long x4), (6, .int x6)]) hx hb dX3_weather_37 hl (by decide) rfl (fun ls hl => ?_)
          refine lv_aload_n hx hb dX3_weather_39 rfl (lv_at hl 1 rfl) ?_
          refine va_get (D := D) (ci := 3) (v := .ref (a 9)) (C := RX3) (T := TX3) (N := 11) hx hb hts i3 hown hK hP 0 rfl rfl 1 (by decide) f16 (fun _ h9 => h9) rfl dX3_weather_40 ?_
          refine lv_iconst (v := 1) hx hb dX3_weather_43 (by decide) ?_
          refine lv_iload hx hb dX3_weather_44 (lv_at hl 0 rfl) ?_
          refine lv_if_eq (tgt := 53) hx hb dX3_weather_46 (by decide) (fun _ => ?_) (fun c9 => absurd c9 (by decide))
          refine lv_iconst (v := 1) hx hb dX3_weather_53 (by decide) ?_
          refine lv_bipush (v := (-9)) hx hb dX3_weather_54 (by decide) ?_
          obtain ⟨u56_mi, q56, h⟩ := bnd1_inv h
          refine kVV (n := 3) (As := [.int (1 : Int32), .int (1 : Int32), .int (-9 : Int32)]) (rest := []) CF hl hK hP hD hS hA (c_X2_pass l D cI (a 9) (a 10) (a 11) (a 12) (a 13) (a 14) (a 15) (a 16) mi (1 : Int32) (1 : Int32) (-9 : Int32) u56_mi q56) gX3_weather_X2_pass rfl dX3_weather_56 (by decide +kernel) ⟨⟨rfl, rfl⟩, ⟨Nat.le_of_ble_eq_true rfl, Nat.le_of_ble_eq_true rfl⟩, Nat.zero_le _, Nat.zero_le _⟩ (JN.sub (wst' := (cX a cI no u56_mi ke hk sg lz rn rs rf be fh oh)) [9, 10, 11, 12, 13, 14, 15, 16] rfl rfl rfl rfl) 9 rfl ⟨rfl, rfl⟩ rfl rfl (Nat.le_of_ble_eq_true rfl) (fun H locs hP hD hS => ?_)
          replace hP : va_P D vwCl (cX a cI no u56_mi ke hk sg lz rn rs rf be fh oh) H := hP
          replace hD : va_D A (cX a cI no u56_mi ke hk sg lz rn rs rf be fh oh) := hD
          refine lv_lload hx hb dX3_weather_59 (lv_at hl 5 rfl) ?_
          refine lv_iload hx hb dX3_weather_61 (lv_at hl 0 rfl) ?_
          refine lv_if_eq (tgt := 70) hx hb dX3_weather_63 (by decide) (fun _ => ?_) (fun c9 => absurd c9 (by decide))
          refine lv_iload_n hx hb dX3_weather_70 rfl (lv_at hl 3 rfl) ?_
          refine lv_iconst (v := 1) hx hb dX3_weather_71 (by decide) ?_
          refine lv_isub hx hb dX3_weather_72 ?_
          refine lv_i2l hx hb dX3_weather_73 rfl ?_
          refine lv_lmul hx hb dX3_weather_74 ?_
          refine lv_lstore (lv' := [(4, .long (x4 * (Int32.toInt64 (x2 - (1 : Int32))))), (7, .int (0 : Int32)), (0, .ref (a 0)), (1, .int x1), (2, .int x2), (3, .int x3), (6, .int x6)]) hx hb dX3_weather_75 hl (by decide) rfl (fun ls hl => ?_)
          refine lv_iinc (v := (x6 + 1)) (lv' := [(6, .int (x6 + 1)), (4, .long (x4 * (Int32.toInt64 (x2 - (1 : Int32))))), (7, .int (0 : Int32)), (0, .ref (a 0)), (1, .int x1), (2, .int x2), (3, .int x3)]) hx hb dX3_weather_77 hl (k := 6) rfl (by first | rfl | decide) (by decide) rfl (fun ls hl => ?_)
          refine lv_goto (tgt := 17) hx hb dX3_weather_80 (by decide) ?_
          exact ih _ _ _ _ _ _ h  _ _ _ hP hD hS (lv_sub hl [3, 4, 5, 6, 1, 0] rfl)
        · replace h := fx_ite_f c29 h
          refine lv_iconst (v := 1) hx hb dX3_weather_32 (by decide) ?_
          refine lv_goto (tgt := 37) hx hb dX3_weather_33 (by decide) ?_
          refine lv_istore (lv' := [(7, .int (1 : Int32)), (0, .ref (a 0)), (1, .int x1), (2, .int x2), (3, .int x3), (4, .long x4), (6, .int x6)]) hx hb dX3_weather_37 hl (by decide) rfl (fun ls hl => ?_)
          refine lv_aload_n hx hb dX3_weather_39 rfl (lv_at hl 1 rfl) ?_
          refine va_get (D := D) (ci := 3) (v := .ref (a 9)) (C := RX3) (T := TX3) (N := 11) hx hb hts i3 hown hK hP 0 rfl rfl 1 (by decide) f16 (fun _ h9 => h9) rfl dX3_weather_40 ?_
          refine lv_iconst (v := 1) hx hb dX3_weather_43 (by decide) ?_
          refine lv_iload hx hb dX3_weather_44 (lv_at hl 0 rfl) ?_
          refine lv_if_eq (tgt := 53) hx hb dX3_weather_46 (by decide) (fun c9 => absurd c9 (by decide)) (fun _ => ?_)
          refine lv_iconst (v := 2) hx hb dX3_weather_49 (by decide) ?_
          refine lv_goto (tgt := 54) hx hb dX3_weather_50 (by decide) ?_
          refine lv_bipush (v := (-9)) hx hb dX3_weather_54 (by decide) ?_
          obtain ⟨u56_mi, q56, h⟩ := bnd1_inv h
          refine kVV (n := 3) (As := [.int (1 : Int32), .int (2 : Int32), .int (-9 : Int32)]) (rest := []) CF hl hK hP hD hS hA (c_X2_pass l D cI (a 9) (a 10) (a 11) (a 12) (a 13) (a 14) (a 15) (a 16) mi (1 : Int32) (2 : Int32) (-9 : Int32) u56_mi q56) gX3_weather_X2_pass rfl dX3_weather_56 (by decide +kernel) ⟨⟨rfl, rfl⟩, ⟨Nat.le_of_ble_eq_true rfl, Nat.le_of_ble_eq_true rfl⟩, Nat.zero_le _, Nat.zero_le _⟩ (JN.sub (wst' := (cX a cI no u56_mi ke hk sg lz rn rs rf be fh oh)) [9, 10, 11, 12, 13, 14, 15, 16] rfl rfl rfl rfl) 9 rfl ⟨rfl, rfl⟩ rfl rfl (Nat.le_of_ble_eq_true rfl) (fun H locs hP hD hS => ?_)
          replace hP : va_P D vwCl (cX a cI no u56_mi ke hk sg lz rn rs rf be fh oh) H := hP
          replace hD : va_D A (cX a cI no u56_mi ke hk sg lz rn rs rf be fh oh) := hD
          refine lv_lload hx hb dX3_weather_59 (lv_at hl 5 rfl) ?_
          refine lv_iload hx hb dX3_weather_61 (lv_at hl 0 rfl) ?_
          refine lv_if_eq (tgt := 70) hx hb dX3_weather_63 (by decide) (fun c9 => absurd c9 (by decide)) (fun _ => ?_)
          refine lv_lconst (v := 1) hx hb dX3_weather_66 (by decide) ?_
          refine lv_goto (tgt := 74) hx hb dX3_weather_67 (by decide) ?_
          refine lv_lmul hx hb dX3_weather_74 ?_
          refine lv_lstore (lv' := [(4, .long (x4 * (1 : Int64))), (7, .int (1 : Int32)), (0, .ref (a 0)), (1, .int x1), (2, .int x2), (3, .int x3), (6, .int x6)]) hx hb dX3_weather_75 hl (by decide) rfl (fun ls hl => ?_)
          refine lv_iinc (v := (x6 + 1)) (lv' := [(6, .int (x6 + 1)), (4, .long (x4 * (1 : Int64))), (7, .int (1 : Int32)), (0, .ref (a 0)), (1, .int x1), (2, .int x2), (3, .int x3)]) hx hb dX3_weather_77 hl (k := 6) rfl (by first | rfl | decide) (by decide) rfl (fun ls hl => ?_)
          refine lv_goto (tgt := 17) hx hb dX3_weather_80 (by decide) ?_
          exact ih _ _ _ _ _ _ h  _ _ _ hP hD hS (lv_sub hl [3, 4, 5, 6, 1, 0] rfl)
  unfold M_X3_weather at h
  refine lv_aload_n hx hb dX3_weather_0 rfl (lv_at hl 0 rfl) ?_
  refine va_get (D := D) (ci := 3) (v := .ref (a 9)) (C := RX3) (T := TX3) (N := 11) hx hb hts i3 hown hK hP 0 rfl rfl 1 (by decide) f16 (fun _ h9 => h9) rfl dX3_weather_1 ?_
  refine lv_aload_n hx hb dX3_weather_4 rfl (lv_at hl 0 rfl) ?_
  refine va_get (D := D) (ci := 3) (v := .ref (a 1)) (C := RX3) (T := TX3) (N := 11) hx hb hts i3 hown hK hP 0 rfl rfl 0 (by decide) f10 (fun _ h9 => h9) rfl dX3_weather_5 ?_
  obtain ⟨u8_mi, q8, h⟩ := bnd1_inv h
  refine kVV (n := 1) (As := [.ref (a 1)]) (rest := []) CF hl hK hP hD hS hA (c_X2_become l D cI (a 9) (a 10) (a 11) (a 12) (a 13) (a 14) (a 15) (a 16) (a 1) (a 2) (a 3) (a 4) (a 5) (a 6) (a 7) (a 8) mi no  u8_mi q8) gX3_weather_X2_become rfl dX3_weather_8 (by decide +kernel) ⟨⟨rfl, rfl⟩, ⟨Nat.le_of_ble_eq_true rfl, Nat.le_of_ble_eq_true rfl⟩, Nat.zero_le _, Nat.zero_le _⟩ (JN.sub (wst' := (cX a cI no u8_mi ke hk sg lz rn rs rf be fh oh)) [9, 10, 11, 12, 13, 14, 15, 16, 1, 2, 3, 4, 5, 6, 7, 8] rfl rfl rfl rfl) 9 rfl ⟨rfl, rfl⟩ rfl rfl (Nat.le_of_ble_eq_true rfl) (fun H locs hP hD hS => ?_)
  replace hP : va_P D vwCl (cX a cI no u8_mi ke hk sg lz rn rs rf be fh oh) H := hP
  replace hD : va_D A (cX a cI no u8_mi ke hk sg lz rn rs rf be fh oh) := hD
  refine lv_lconst (v := 1) hx hb dX3_weather_11 (by decide) ?_
  refine lv_lstore (lv' := [(4, .long (1 : Int64)), (0, .ref (a 0)), (1, .int p1), (2, .int p2), (3, .int p3)]) hx hb dX3_weather_12 hl (by decide) rfl (fun ls hl => ?_)
  refine lv_iconst (v := 0) hx hb dX3_weather_14 (by decide) ?_
  refine lv_istore (lv' := [(6, .int (0 : Int32)), (4, .long (1 : Int64)), (0, .ref (a 0)), (1, .int p1), (2, .int p2), (3, .int p3)]) hx hb dX3_weather_15 hl (by decide) rfl (fun ls hl => ?_)
  exact L17 FU _ _ _ _ _ _ h  _ _ _ hP hD hS (lv_sub hl [2, 3, 4, 5, 1, 0] rfl)
/-! X3_leastTerms -/
set_option maxHeartbeats 4000000 in
set_option maxRecDepth 100000 in
theorem c_X3_leastTerms (l : Launch) (D : va_G) (cI : ClassId)   (p0 : Int64) (p2 : Int64) (p4 : Int32) (res : Int64) (h : M_X3_leastTerms p0 p2 p4 = some res) : mL l yX3_leastTerms wsX3_leastTerms { frames := 0, cells := 0, slots := 0, locals := 0 } D cI [.long p0, .long p2, .int p4] [] [] res := by
  intro sz
  refine mStart (cc := cX3_leastTerms) (maxL := 12) (ret := (some .long)) (own := RX3) (by decide) rfl rfl (Nat.le_of_ble_eq_true rfl) (lv := [(0, .long p0), (2, .long p2), (4, .int p4)]) rfl ?_
  intro p e s m args below meth c A ls Q H locs CF hr hlocks hK hP hD hS hA hAe hl hQ
  obtain ⟨hx, hb, hml, hown, hts⟩ := id CF
  have L9 : ∀ (n : Nat) (x0 : Int64) (x2 : Int64) (x4 : Int32) (x5 : Int64) (x7 : Int64) (x9 : Int32), fuel (fun _ _ _ => none) (B_X3_leastTerms_9 x0 x2 x4) n x5 x7 x9 = some res → 
      ∀ (H : Heap) (locs : List Loc) (ls : Array Slot), va_P D vwCl [] H → va_D A [] → va_S A s.heap H locs → lv_has ls 12 [(0, .long x0), (2, .long x2), (4, .int x4), (5, .long x5), (7, .long x7), (9, .int x9)] → W p l e { frames := 0, cells := 0, slots := 0, locals := 0 } s m args below meth c H locs 0 0 Q (F0 m 9 ls []) := by
    intro n
    induction n with
    | zero =>
      intro x0 x2 x4 x5 x7 x9 h
      exact nomatch (show (none : Option (Int64)) = some res from h)
    | succ n ih =>
      intro x0 x2 x4 x5 x7 x9 h  H locs ls hP hD hS hl
      replace h : B_X3_leastTerms_9 x0 x2 x4 (fuel (fun _ _ _ => none) (B_X3_leastTerms_9 x0 x2 x4) n) x5 x7 x9 = some res := h
      unfold B_X3_leastTerms_9 at h
      refine lv_iload hx hb dX3_leastTerms_9 (lv_at hl 5 rfl) ?_
      refine lv_sipush (v := 200) hx hb dX3_leastTerms_11 (by decide) ?_
      refine lv_icmp_ge (tgt := 45) hx hb dX3_leastTerms_14 (by decide) (fun c14 => ?_) (fun c14 => ?_)
      · replace h := fx_ite_t c14 h
        refine lv_lload hx hb dX3_leastTerms_45 (lv_at hl 3 rfl) ?_
        refine lv_lconst (v := 0) hx hb dX3_leastTerms_47 (by decide) ?_
        refine W.lcmp hx hb dX3_leastTerms_48 ?_
        refine lv_if_ne (tgt := 56) hx hb dX3_leastTerms_49 (by decide) (fun c49 => ?_) (fun c49 => ?_)
        · replace h := fx_ite_f c49 h
          refine lv_iload hx hb dX3_leastTerms_56 (lv_at hl 2 rfl) ?_
          refine lv_if_ne (tgt := 65) hx hb dX3_leastTerms_58 (by decide) (fun c58 => ?_) (fun c58 => ?_)
          · replace h := fx_ite_f c58 h
            refine lv_lload_n hx hb dX3_leastTerms_65 rfl (lv_at hl 1 rfl) ?_
            refine lv_lload hx hb dX3_leastTerms_66 (lv_at hl 3 rfl) ?_
            obtain ⟨e68, h⟩ := dchL_inv h
            refine lv_ldiv hx hb dX3_leastTerms_68 e68 ?_
            obtain rfl := ret1 h
            exact rL hQ hx hb hr hlocks hAe hP hS rfl dX3_leastTerms_69
          · replace h := fx_ite_t c58 h
            refine lv_lload_n hx hb dX3_leastTerms_61 rfl (lv_at hl 0 rfl) ?_
            refine lv_goto (tgt := 66) hx hb dX3_leastTerms_62 (by decide) ?_
            refine lv_lload hx hb dX3_leastTerms_66 (lv_at hl 3 rfl) ?_
            obtain ⟨e68, h⟩ := dchL_inv h
            refine lv_ldiv hx hb dX3_leastTerms_68 e68 ?_
            obtain rfl := ret1 h
            exact rL hQ hx hb hr hlocks hAe hP hS rfl dX3_leastTerms_69
        · replace h := fx_ite_t c49 h
          refine lv_iload hx hb dX3_leastTerms_52 (lv_at hl 2 rfl) ?_
          refine lv_i2l hx hb dX3_leastTerms_54 rfl ?_
          obtain rfl := ret1 h
          exact rL hQ hx hb hr hlocks hAe hP hS rfl dX3_leastTerms_55
      · replace h := fx_ite_f c14 h
        refine lv_lload hx hb dX3_leastTerms_17 (lv_at hl 4 rfl) ?_
        refine lv_lconst (v := 0) hx hb dX3_leastTerms_19 (by decide) ?_
        refine W.lcmp hx hb dX3_leastTerms_20 ?_
        refine lv_if_eq (tgt := 45) hx hb dX3_leastTerms_21 (by decide) (fun c21 => ?_) (fun c21 => ?_)
        · replace h := fx_ite_t c21 h
          refine lv_lload hx hb dX3_leastTerms_45 (lv_at hl 3 rfl) ?_
          refine lv_lconst (v := 0) hx hb dX3_leastTerms_47 (by decide) ?_
          refine W.lcmp hx hb dX3_leastTerms_48 ?_
          refine lv_if_ne (tgt := 56) hx hb dX3_leastTerms_49 (by decide) (fun c49 => ?_) (fun c49 => ?_)
          · replace h := fx_ite_f c49 h
            refine lv_iload hx hb dX3_leastTerms_56 (lv_at hl 2 rfl) ?_
            refine lv_if_ne (tgt := 65) hx hb dX3_leastTerms_58 (by decide) (fun c58 => ?_) (fun c58 => ?_)
            · replace h := fx_ite_f c58 h
              refine lv_lload_n hx hb dX3_leastTerms_65 rfl (lv_at hl 1 rfl) ?_
              refine lv_lload hx hb dX3_leastTerms_66 (lv_at hl 3 rfl) ?_
              obtain ⟨e68, h⟩ := dchL_inv h
              refine lv_ldiv hx hb dX3_leastTerms_68 e68 ?_
              obtain rfl := ret1 h
              exact rL hQ hx hb hr hlocks hAe hP hS rfl dX3_leastTerms_69
            · replace h := fx_ite_t c58 h
              refine lv_lload_n hx hb dX3_leastTerms_61 rfl (lv_at hl 0 rfl) ?_
              refine lv_goto (tgt := 66) hx hb dX3_leastTerms_62 (by decide) ?_
              refine lv_lload hx hb dX3_leastTerms_66 (lv_at hl 3 rfl) ?_
              obtain ⟨e68, h⟩ := dchL_inv h
              refine lv_ldiv hx hb dX3_leastTerms_68 e68 ?_
              obtain rfl := ret1 h
              exact rL hQ hx hb hr hlocks hAe hP hS rfl dX3_leastTerms_69
          · replace h := fx_ite_t c49 h
            refine lv_iload hx hb dX3_leastTerms_52 (lv_at hl 2 rfl) ?_
            refine lv_i2l hx hb dX3_leastTerms_54 rfl ?_
            obtain rfl := ret1 h
            exact rL hQ hx hb hr hlocks hAe hP hS rfl dX3_leastTerms_55
        · replace h := fx_ite_f c21 h
          refine lv_lload hx hb dX3_leastTerms_24 (lv_at hl 3 rfl) ?_
          refine lv_lload hx hb dX3_leastTerms_26 (lv_at hl 4 rfl) ?_
          obtain ⟨e28, h⟩ := dchL_inv h
          refine lv_lrem hx hb dX3_leastTerms_28 e28 ?_
          refine lv_lstore (lv' := [(10, .long (x5 - x5 / x7 * x7)), (0, .long x0), (2, .long x2), (4, .int x4), (5, .long x5), (7, .long x7), (9, .int x9)]) hx hb dX3_leastTerms_29 hl (by decide) rfl (fun ls hl => ?_)
          refine lv_lload hx hb dX3_leastTerms_31 (lv_at hl 5 rfl) ?_
          refine lv_lstore (lv' := [(5, .long x7), (10, .long (x5 - x5 / x7 * x7)), (0, .long x0), (2, .long x2), (4, .int x4), (7, .long x7), (9, .int x9)]) hx hb dX3_leastTerms_33 hl (by decide) rfl (fun ls hl => ?_)
          refine lv_lload hx hb dX3_leastTerms_35 (lv_at hl 1 rfl) ?_
          refine lv_lstore (lv' := [(7, .long (x5 - x5 / x7 * x7)), (5, .long x7), (10, .long (x5 - x5 / x7 * x7)), (0, .long x0), (2, .long x2), (4, .int x4), (9, .int x9)]) hx hb dX3_leastTerms_37 hl (by decide) rfl (fun ls hl => ?_)
          refine lv_iinc (v := (x9 + 1)) (lv' := [(9, .int (x9 + 1)), (7, .long (x5 - x5 / x7 * x7)), (5, .long x7), (10, .long (x5 - x5 / x7 * x7)), (0, .long x0), (2, .long x2), (4, .int x4)]) hx hb dX3_leastTerms_39 hl (k := 6) rfl (by first | rfl | decide) (by decide) rfl (fun ls hl => ?_)
          refine lv_goto (tgt := 9) hx hb dX3_leastTerms_42 (by decide) ?_
          exact ih _ _ _ _ _ _ h  _ _ _ hP hD hS (lv_sub hl [4, 5, 6, 2, 1, 0] rfl)
  unfold M_X3_leastTerms at h
  refine lv_lload_n hx hb dX3_leastTerms_0 rfl (lv_at hl 1 rfl) ?_
  refine lv_lstore (lv' := [(5, .long p2), (0, .long p0), (2, .long p2), (4, .int p4)]) hx hb dX3_leastTerms_1 hl (by decide) rfl (fun ls hl => ?_)
  refine lv_lload_n hx hb dX3_leastTerms_3 rfl (lv_at hl 1 rfl) ?_
  refine lv_lstore (lv' := [(7, .long p0), (5, .long p2), (0, .long p0), (2, .long p2), (4, .int p4)]) hx hb dX3_leastTerms_4 hl (by decide) rfl (fun ls hl => ?_)
  refine lv_iconst (v := 0) hx hb dX3_leastTerms_6 (by decide) ?_
  refine lv_istore (lv' := [(9, .int (0 : Int32)), (7, .long p0), (5, .long p2), (0, .long p0), (2, .long p2), (4, .int p4)]) hx hb dX3_leastTerms_7 hl (by decide) rfl (fun ls hl => ?_)
  exact L9 FU _ _ _ _ _ _ h  _ _ _ hP hD hS (lv_sub hl [3, 4, 5, 2, 1, 0] rfl)
