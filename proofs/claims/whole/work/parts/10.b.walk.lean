/-! X2_mayMend -/
set_option maxHeartbeats 4000000 in
set_option maxRecDepth 100000 in
theorem c_X2_mayMend (l : Launch) (D : va_G) (cI : ClassId) (h0 h1 h2 h3 h4 h5 h6 h7 : Nat) (v : SV) (p1 : Int32) (p2 : Int32) (res : Int32) (h : M_X2_mayMend v p1 p2 = some res) : mI l yX2_mayMend wsX2_mayMend { frames := 2, cells := 0, slots := 0, locals := 45 } D cI [.ref h0, .int p1, .int p2] (cS h0 h1 h2 h3 h4 h5 h6 h7 cI v) (cS h0 h1 h2 h3 h4 h5 h6 h7 cI v) res := by
  intro sz
  refine mStart (cc := cX2_mayMend) (maxL := 4) (ret := (some .boolean)) (own := RX2) (by decide) rfl rfl (Nat.le_of_ble_eq_true rfl) (lv := [(0, .ref h0), (1, .int p1), (2, .int p2)]) rfl ?_
  intro p e s m args below meth c A ls Q H locs CF hr hlocks hK hP hD hS hA hAe hl hQ
  obtain ⟨hx, hb, hml, hown, hts⟩ := id CF
  have f9 := hts (.fieldLink RX2 9 "MendAnothersBreaking$State" "skills" "[I") (List.mem_of_getElem? (i := 2) rfl)
  have f30 := hts (.fieldLink RX2 30 "MendAnothersBreaking$State" "breakers" "[I") (List.mem_of_getElem? (i := 1) rfl)
  have i2 : ∀ w ∈ wsX20, w ∈ wsX2_mayMend := fun w h => List.mem_cons_of_mem _ (List.mem_append_right _ h)
  unfold M_X2_mayMend at h
  refine lv_aload_n hx hb dX2_mayMend_0 rfl (lv_at hl 0 rfl) ?_
  refine va_get (D := D) (ci := 2) (v := .ref h7) (C := RX2) (T := TX2) (N := 10) hx hb hts i2 hown hK hP 0 rfl rfl 6 (by decide) f30 (fun _ h9 => h9) rfl dX2_mayMend_1 ?_
  refine lv_iload_n hx hb dX2_mayMend_4 rfl (lv_at hl 2 rfl) ?_
  obtain ⟨g5, h⟩ := chk_inv h
  refine va_iald (n := 9) (f := (sBr v)) hx hb hK hP 7 0 rfl rfl g5 dX2_mayMend_5 ?_
  refine lv_istore_n (lv' := [(3, .int ((sBr v) (Int32.toNatClampNeg p2))), (0, .ref h0), (1, .int p1), (2, .int p2)]) hx hb dX2_mayMend_6 rfl hl (by decide) rfl (fun ls hl => ?_)
  refine lv_iload_n hx hb dX2_mayMend_7 rfl (lv_at hl 0 rfl) ?_
  refine lv_if_lt (tgt := 34) hx hb dX2_mayMend_8 (by decide) (fun c8 => ?_) (fun c8 => ?_)
  · replace h := fx_ite_t c8 h
    refine lv_iconst (v := 0) hx hb dX2_mayMend_34 (by decide) ?_
    obtain rfl := ret1 h
    exact rI hQ hx hb hr hlocks hAe hP hS rfl rfl dX2_mayMend_35
  · replace h := fx_ite_f c8 h
    refine lv_iload_n hx hb dX2_mayMend_11 rfl (lv_at hl 0 rfl) ?_
    refine lv_iload_n hx hb dX2_mayMend_12 rfl (lv_at hl 2 rfl) ?_
    refine lv_icmp_eq (tgt := 34) hx hb dX2_mayMend_13 (by decide) (fun c13 => ?_) (fun c13 => ?_)
    · replace h := fx_ite_t c13 h
      refine lv_iconst (v := 0) hx hb dX2_mayMend_34 (by decide) ?_
      obtain rfl := ret1 h
      exact rI hQ hx hb hr hlocks hAe hP hS rfl rfl dX2_mayMend_35
    · replace h := fx_ite_f c13 h
      refine lv_aload_n hx hb dX2_mayMend_16 rfl (lv_at hl 1 rfl) ?_
      refine va_get (D := D) (ci := 2) (v := .ref h1) (C := RX2) (T := TX2) (N := 10) hx hb hts i2 hown hK hP 0 rfl rfl 0 (by decide) f9 (fun _ h9 => h9) rfl dX2_mayMend_17 ?_
      refine lv_iload_n hx hb dX2_mayMend_20 rfl (lv_at hl 2 rfl) ?_
      obtain ⟨g21, h⟩ := chk_inv h
      refine va_iald (n := 6) (f := (sSk v)) hx hb hK hP 1 0 rfl rfl g21 dX2_mayMend_21 ?_
      refine lv_aload_n hx hb dX2_mayMend_22 rfl (lv_at hl 1 rfl) ?_
      refine lv_iload_n hx hb dX2_mayMend_23 rfl (lv_at hl 3 rfl) ?_
      obtain ⟨r24, q24, h⟩ := bnd1_inv h
      refine kVI (n := 1) (As := [.int p2]) (rest := [.int ((sSk v) (Int32.toNatClampNeg p1))]) CF hl hK hP hD hS hA (c_X2_hardOf l D cI h0 h1 h2 h3 h4 h5 h6 h7 v p2 r24 q24) gX2_mayMend_X2_hardOf rfl dX2_mayMend_24 (by decide +kernel) ⟨⟨rfl, rfl⟩, ⟨Nat.le_of_ble_eq_true rfl, Nat.le_of_ble_eq_true rfl⟩, Nat.zero_le _, Nat.zero_le _⟩ (JN.whole rfl) 0 rfl ⟨rfl, rfl⟩ rfl rfl (Nat.le_of_ble_eq_true rfl) (fun H locs hP hD hS => ?_)
      replace hP : va_P D vwCl (cS h0 h1 h2 h3 h4 h5 h6 h7 cI v) H := hP
      replace hD : va_D A (cS h0 h1 h2 h3 h4 h5 h6 h7 cI v) := hD
      refine lv_icmp_lt (tgt := 34) hx hb dX2_mayMend_27 (by decide) (fun c27 => ?_) (fun c27 => ?_)
      · replace h := fx_ite_t c27 h
        refine lv_iconst (v := 0) hx hb dX2_mayMend_34 (by decide) ?_
        obtain rfl := ret1 h
        exact rI hQ hx hb hr hlocks hAe hP hS rfl rfl dX2_mayMend_35
      · replace h := fx_ite_f c27 h
        refine lv_iconst (v := 1) hx hb dX2_mayMend_30 (by decide) ?_
        refine lv_goto (tgt := 35) hx hb dX2_mayMend_31 (by decide) ?_
        obtain rfl := ret1 h
        exact rI hQ hx hb hr hlocks hAe hP hS rfl rfl dX2_mayMend_35
/-! X2_mend -/
set_option maxHeartbeats 4000000 in
set_option maxRecDepth 100000 in
theorem c_X2_mend (l : Launch) (D : va_G) (cI : ClassId) (h0 h1 h2 h3 h4 h5 h6 h7 : Nat) (v : SV) (p1 : Int32) (p2 : Int32) (u_v : SV) (h : M_X2_mend v p1 p2 = some u_v) : mV l yX2_mend wsX2_mend { frames := 1, cells := 0, slots := 0, locals := 21 } D cI [.ref h0, .int p1, .int p2] (cS h0 h1 h2 h3 h4 h5 h6 h7 cI v) (cS h0 h1 h2 h3 h4 h5 h6 h7 cI u_v) := by
  intro sz
  refine mStart (cc := cX2_mend) (maxL := 3) (ret := none) (own := RX2) (by decide) rfl rfl (Nat.le_of_ble_eq_true rfl) (lv := [(0, .ref h0), (1, .int p1), (2, .int p2)]) rfl ?_
  intro p e s m args below meth c A ls Q H locs CF hr hlocks hK hP hD hS hA hAe hl hQ
  obtain ⟨hx, hb, hml, hown, hts⟩ := id CF
  have f15 := hts (.fieldLink RX2 15 "MendAnothersBreaking$State" "mended" "[I") (List.mem_of_getElem? (i := 3) rfl)
  have f27 := hts (.fieldLink RX2 27 "MendAnothersBreaking$State" "wear" "[I") (List.mem_of_getElem? (i := 2) rfl)
  have f30 := hts (.fieldLink RX2 30 "MendAnothersBreaking$State" "breakers" "[I") (List.mem_of_getElem? (i := 1) rfl)
  have i2 : ∀ w ∈ wsX20, w ∈ wsX2_mend := fun w h => List.mem_cons_of_mem _ (List.mem_append_right _ h)
  have mmin_l := hts (.methodLink RX2 53 Lib.Math.min.name) (List.mem_of_getElem? (i := 4) rfl)
  have mmin_s := hts (.static Lib.Math.min.name) (List.mem_of_getElem? (i := 5) rfl)
  have m_i := hts (.initialized "java/lang/Math") (List.mem_of_getElem? (i := 6) rfl)
  have mmin_c := hts (.code Lib.Math.min.name Lib.Math.min.code 2 (some .int)) (List.mem_of_getElem? (i := 7) rfl)
  unfold M_X2_mend at h
  refine lv_aload_n hx hb dX2_mend_0 rfl (lv_at hl 0 rfl) ?_
  refine va_get (D := D) (ci := 2) (v := .ref h7) (C := RX2) (T := TX2) (N := 10) hx hb hts i2 hown hK hP 0 rfl rfl 6 (by decide) f30 (fun _ h9 => h9) rfl dX2_mend_1 ?_
  refine lv_iload_n hx hb dX2_mend_4 rfl (lv_at hl 2 rfl) ?_
  refine lv_bipush (v := (-9)) hx hb dX2_mend_5 (by decide) ?_
  obtain ⟨g7, h⟩ := chk_inv h
  refine va_iast (n := 9) (f := (sBr v)) hx hb hK hP hD hS 7 0 rfl rfl g7 dX2_mend_7 (fun H locs hP hD hS => ?_)
  replace hP : va_P D vwCl (cS h0 h1 h2 h3 h4 h5 h6 h7 cI (sUBr v (upd (sBr v) (Int32.toNatClampNeg p2) (-9 : Int32)))) H := hP
  replace hD : va_D A (cS h0 h1 h2 h3 h4 h5 h6 h7 cI (sUBr v (upd (sBr v) (Int32.toNatClampNeg p2) (-9 : Int32)))) := hD
  refine lv_aload_n hx hb dX2_mend_8 rfl (lv_at hl 0 rfl) ?_
  refine va_get (D := D) (ci := 2) (v := .ref h6) (C := RX2) (T := TX2) (N := 10) hx hb hts i2 hown hK hP 0 rfl rfl 5 (by decide) f27 (fun _ h9 => h9) rfl dX2_mend_9 ?_
  refine lv_iload_n hx hb dX2_mend_12 rfl (lv_at hl 2 rfl) ?_
  refine lv_iconst (v := 0) hx hb dX2_mend_13 (by decide) ?_
  obtain ⟨g14, h⟩ := chk_inv h
  refine va_iast (n := 9) (f := (sWe v)) hx hb hK hP hD hS 6 0 rfl rfl g14 dX2_mend_14 (fun H locs hP hD hS => ?_)
  replace hP : va_P D vwCl (cS h0 h1 h2 h3 h4 h5 h6 h7 cI (sUBr (sUWe v (upd (sWe v) (Int32.toNatClampNeg p2) (0 : Int32))) (upd (sBr v) (Int32.toNatClampNeg p2) (-9 : Int32)))) H := hP
  replace hD : va_D A (cS h0 h1 h2 h3 h4 h5 h6 h7 cI (sUBr (sUWe v (upd (sWe v) (Int32.toNatClampNeg p2) (0 : Int32))) (upd (sBr v) (Int32.toNatClampNeg p2) (-9 : Int32)))) := hD
  refine lv_aload_n hx hb dX2_mend_15 rfl (lv_at hl 0 rfl) ?_
  refine va_get (D := D) (ci := 2) (v := .ref h2) (C := RX2) (T := TX2) (N := 10) hx hb hts i2 hown hK hP 0 rfl rfl 1 (by decide) f15 (fun _ h9 => h9) rfl dX2_mend_16 ?_
  refine lv_iload_n hx hb dX2_mend_19 rfl (lv_at hl 1 rfl) ?_
  refine lv_sipush (v := 999) hx hb dX2_mend_20 (by decide) ?_
  refine lv_aload_n hx hb dX2_mend_23 rfl (lv_at hl 0 rfl) ?_
  refine va_get (D := D) (ci := 2) (v := .ref h2) (C := RX2) (T := TX2) (N := 10) hx hb hts i2 hown hK hP 0 rfl rfl 1 (by decide) f15 (fun _ h9 => h9) rfl dX2_mend_24 ?_
  refine lv_iload_n hx hb dX2_mend_27 rfl (lv_at hl 1 rfl) ?_
  obtain ⟨g28, h⟩ := chk_inv h
  refine va_iald (n := 6) (f := (sMe v)) hx hb hK hP 2 0 rfl rfl g28 dX2_mend_28 ?_
  refine lv_iconst (v := 1) hx hb dX2_mend_29 (by decide) ?_
  refine lv_iadd hx hb dX2_mend_30 ?_
  refine va_mmin hx hb (hml.trans hl.1.symm) hown mmin_l mmin_s m_i mmin_c (Nat.le_of_ble_eq_true rfl) (Nat.le_of_ble_eq_true rfl) (Nat.zero_le _) (Nat.zero_le _) dX2_mend_31 ?_
  obtain ⟨g34, h⟩ := chk_inv h
  refine va_iast (n := 6) (f := (sMe v)) hx hb hK hP hD hS 2 0 rfl rfl g34 dX2_mend_34 (fun H locs hP hD hS => ?_)
  replace hP : va_P D vwCl (cS h0 h1 h2 h3 h4 h5 h6 h7 cI (sUBr (sUWe (sUMe v (upd (sMe v) (Int32.toNatClampNeg p1) (if (((sMe v) (Int32.toNatClampNeg p1)) + (1 : Int32)) < (999 : Int32) then (((sMe v) (Int32.toNatClampNeg p1)) + (1 : Int32)) else (999 : Int32)))) (upd (sWe v) (Int32.toNatClampNeg p2) (0 : Int32))) (upd (sBr v) (Int32.toNatClampNeg p2) (-9 : Int32)))) H := hP
  replace hD : va_D A (cS h0 h1 h2 h3 h4 h5 h6 h7 cI (sUBr (sUWe (sUMe v (upd (sMe v) (Int32.toNatClampNeg p1) (if (((sMe v) (Int32.toNatClampNeg p1)) + (1 : Int32)) < (999 : Int32) then (((sMe v) (Int32.toNatClampNeg p1)) + (1 : Int32)) else (999 : Int32)))) (upd (sWe v) (Int32.toNatClampNeg p2) (0 : Int32))) (upd (sBr v) (Int32.toNatClampNeg p2) (-9 : Int32)))) := hD
  obtain rfl := ret1 h
  exact rV hQ hx hb hr hlocks hAe hP hS dX2_mend_35
/-! X2_mendLeast -/
set_option maxHeartbeats 4000000 in
set_option maxRecDepth 100000 in
theorem c_X2_mendLeast (l : Launch) (D : va_G) (cI : ClassId) (h0 h1 h2 h3 h4 h5 h6 h7 : Nat) (v : SV) (p1 : Int32) (u_v : SV) (h : M_X2_mendLeast v p1 = some u_v) : mV l yX2_mendLeast wsX2_mendLeast { frames := 3, cells := 0, slots := 0, locals := 68 } D cI [.ref h0, .int p1] (cS h0 h1 h2 h3 h4 h5 h6 h7 cI v) (cS h0 h1 h2 h3 h4 h5 h6 h7 cI u_v) := by
  intro sz
  refine mStart (cc := cX2_mendLeast) (maxL := 3) (ret := none) (own := RX2) (by decide) rfl rfl (Nat.le_of_ble_eq_true rfl) (lv := [(0, .ref h0), (1, .int p1)]) rfl ?_
  intro p e s m args below meth c A ls Q H locs CF hr hlocks hK hP hD hS hA hAe hl hQ
  obtain ⟨hx, hb, hml, hown, hts⟩ := id CF
  have f37 := hts (.fieldLink RX2 37 "MendAnothersBreaking$State" "things" "I") (List.mem_of_getElem? (i := 1) rfl)
  have i2 : ∀ w ∈ wsX20, w ∈ wsX2_mendLeast := fun w h => List.mem_cons_of_mem _ (List.mem_append_right _ h)
  have L2 : ∀ (n : Nat) (x1 : Int32) (v : SV) (x2 : Int32), fuel (fun _ => none) (B_X2_mendLeast_2 x1 v) n x2 = some u_v → 
      ∀ (H : Heap) (locs : List Loc) (ls : Array Slot), va_P D vwCl (cS h0 h1 h2 h3 h4 h5 h6 h7 cI v) H → va_D A (cS h0 h1 h2 h3 h4 h5 h6 h7 cI v) → va_S A s.heap H locs → lv_has ls 3 [(0, .ref h0), (1, .int x1), (2, .int x2)] → W p l e { frames := 3, cells := 0, slots := 0, locals := 68 } s m args below meth c H locs 0 0 Q (F0 m 2 ls []) := by
    intro n
    induction n with
    | zero =>
      intro x1 v x2 h
      exact nomatch (show (none : Option (SV)) = some u_v from h)
    | succ n ih =>
      intro x1 v x2 h  H locs ls hP hD hS hl
      replace h : B_X2_mendLeast_2 x1 v (fuel (fun _ => none) (B_X2_mendLeast_2 x1 v) n) x2 = some u_v := h
      unfold B_X2_mendLeast_2 at h
      refine lv_iload_n hx hb dX2_mendLeast_2 rfl (lv_at hl 2 rfl) ?_
      refine lv_aload_n hx hb dX2_mendLeast_3 rfl (lv_at hl 0 rfl) ?_
      refine va_get (D := D) (ci := 2) (v := .int (sTh v)) (C := RX2) (T := TX2) (N := 10) hx hb hts i2 hown hK hP 0 rfl rfl 8 (by decide) f37 (fun _ h9 => h9) rfl dX2_mendLeast_4 ?_
      refine lv_icmp_ge (tgt := 32) hx hb dX2_mendLeast_7 (by decide) (fun c7 => ?_) (fun c7 => ?_)
      · replace h := fx_ite_t c7 h
        obtain rfl := ret1 h
        exact rV hQ hx hb hr hlocks hAe hP hS dX2_mendLeast_32
      · replace h := fx_ite_f c7 h
        refine lv_aload_n hx hb dX2_mendLeast_10 rfl (lv_at hl 0 rfl) ?_
        refine lv_iload_n hx hb dX2_mendLeast_11 rfl (lv_at hl 1 rfl) ?_
        refine lv_iload_n hx hb dX2_mendLeast_12 rfl (lv_at hl 2 rfl) ?_
        obtain ⟨r13, q13, h⟩ := bnd1_inv h
        refine kVI (n := 2) (As := [.int x1, .int x2]) (rest := []) CF hl hK hP hD hS hA (c_X2_mayMend l D cI h0 h1 h2 h3 h4 h5 h6 h7 v x1 x2 r13 q13) gX2_mendLeast_X2_mayMend rfl dX2_mendLeast_13 (by decide +kernel) ⟨⟨rfl, rfl⟩, ⟨Nat.le_of_ble_eq_true rfl, Nat.le_of_ble_eq_true rfl⟩, Nat.zero_le _, Nat.zero_le _⟩ (JN.whole rfl) 0 rfl ⟨rfl, rfl⟩ rfl rfl (Nat.le_of_ble_eq_true rfl) (fun H locs hP hD hS => ?_)
        replace hP : va_P D vwCl (cS h0 h1 h2 h3 h4 h5 h6 h7 cI v) H := hP
        replace hD : va_D A (cS h0 h1 h2 h3 h4 h5 h6 h7 cI v) := hD
        refine lv_if_eq (tgt := 26) hx hb dX2_mendLeast_16 (by decide) (fun c16 => ?_) (fun c16 => ?_)
        · replace h := fx_ite_t c16 h
          refine lv_iinc (v := (x2 + 1)) (lv' := [(2, .int (x2 + 1)), (0, .ref h0), (1, .int x1)]) hx hb dX2_mendLeast_26 hl (k := 2) rfl (by first | rfl | decide) (by decide) rfl (fun ls hl => ?_)
          refine lv_goto (tgt := 2) hx hb dX2_mendLeast_29 (by decide) ?_
          exact ih _ _ _ h  _ _ _ hP hD hS (lv_sub hl [1, 2, 0] rfl)
        · replace h := fx_ite_f c16 h
          refine lv_aload_n hx hb dX2_mendLeast_19 rfl (lv_at hl 0 rfl) ?_
          refine lv_iload_n hx hb dX2_mendLeast_20 rfl (lv_at hl 1 rfl) ?_
          refine lv_iload_n hx hb dX2_mendLeast_21 rfl (lv_at hl 2 rfl) ?_
          obtain ⟨u22_v, q22, h⟩ := bnd1_inv h
          refine kVV (n := 2) (As := [.int x1, .int x2]) (rest := []) CF hl hK hP hD hS hA (c_X2_mend l D cI h0 h1 h2 h3 h4 h5 h6 h7 v x1 x2 u22_v q22) gX2_mendLeast_X2_mend rfl dX2_mendLeast_22 (by decide +kernel) ⟨⟨rfl, rfl⟩, ⟨Nat.le_of_ble_eq_true rfl, Nat.le_of_ble_eq_true rfl⟩, Nat.zero_le _, Nat.zero_le _⟩ (JN.whole (w1 := (cS h0 h1 h2 h3 h4 h5 h6 h7 cI u22_v)) rfl) 0 rfl ⟨rfl, rfl⟩ rfl rfl (Nat.le_of_ble_eq_true rfl) (fun H locs hP hD hS => ?_)
          replace hP : va_P D vwCl (cS h0 h1 h2 h3 h4 h5 h6 h7 cI u22_v) H := hP
          replace hD : va_D A (cS h0 h1 h2 h3 h4 h5 h6 h7 cI u22_v) := hD
          obtain rfl := ret1 h
          exact rV hQ hx hb hr hlocks hAe hP hS dX2_mendLeast_25
  unfold M_X2_mendLeast at h
  refine lv_iconst (v := 0) hx hb dX2_mendLeast_0 (by decide) ?_
  refine lv_istore_n (lv' := [(2, .int (0 : Int32)), (0, .ref h0), (1, .int p1)]) hx hb dX2_mendLeast_1 rfl hl (by decide) rfl (fun ls hl => ?_)
  exact L2 FU _ _ _ h  _ _ _ hP hD hS (lv_sub hl [1, 2, 0] rfl)
/-! X2_pass -/
set_option maxHeartbeats 4000000 in
set_option maxRecDepth 100000 in
theorem c_X2_pass (l : Launch) (D : va_G) (cI : ClassId) (h0 h1 h2 h3 h4 h5 h6 h7 : Nat) (v : SV) (p1 : Int32) (p2 : Int32) (p3 : Int32) (u_v : SV) (h : M_X2_pass v p1 p2 p3 = some u_v) : mV l yX2_pass wsX2_pass { frames := 4, cells := 0, slots := 0, locals := 90 } D cI [.ref h0, .int p1, .int p2, .int p3] (cS h0 h1 h2 h3 h4 h5 h6 h7 cI v) (cS h0 h1 h2 h3 h4 h5 h6 h7 cI u_v) := by
  intro sz
  refine mStart (cc := cX2_pass) (maxL := 6) (ret := none) (own := RX2) (by decide) rfl rfl (Nat.le_of_ble_eq_true rfl) (lv := [(0, .ref h0), (1, .int p1), (2, .int p2), (3, .int p3)]) rfl ?_
  intro p e s m args below meth c A ls Q H locs CF hr hlocks hK hP hD hS hA hAe hl hQ
  obtain ⟨hx, hb, hml, hown, hts⟩ := id CF
  have f33 := hts (.fieldLink RX2 33 "MendAnothersBreaking$State" "people" "I") (List.mem_of_getElem? (i := 2) rfl)
  have f40 := hts (.fieldLink RX2 40 "MendAnothersBreaking$State" "day" "I") (List.mem_of_getElem? (i := 1) rfl)
  have i2 : ∀ w ∈ wsX20, w ∈ wsX2_pass := fun w h => List.mem_cons_of_mem _ (List.mem_append_right _ h)
  have L27 : ∀ (n : Nat) (x1 : Int32) (x2 : Int32) (x3 : Int32) (x4 : Int32) (k61 : SV → Option (SV)) (x5 : Int32) (v : SV), fuel (fun _ _ => none) (B_X2_pass_27 x1 x2 x3 x4 k61) n x5 v = some u_v → 
      (∀ (v : SV), k61 v = some u_v → ∀ (H : Heap) (locs : List Loc) (ls : Array Slot), va_P D vwCl (cS h0 h1 h2 h3 h4 h5 h6 h7 cI v) H → va_D A (cS h0 h1 h2 h3 h4 h5 h6 h7 cI v) → va_S A s.heap H locs → lv_has ls 6 [(0, .ref h0), (1, .int x1), (2, .int x2), (3, .int x3), (4, .int x4)] → W p l e { frames := 4, cells := 0, slots := 0, locals := 90 } s m args below meth c H locs 0 0 Q (F0 m 61 ls [])) → 
      ∀ (H : Heap) (locs : List Loc) (ls : Array Slot), va_P D vwCl (cS h0 h1 h2 h3 h4 h5 h6 h7 cI v) H → va_D A (cS h0 h1 h2 h3 h4 h5 h6 h7 cI v) → va_S A s.heap H locs → lv_has ls 6 [(0, .ref h0), (1, .int x1), (2, .int x2), (3, .int x3), (4, .int x4), (5, .int x5)] → W p l e { frames := 4, cells := 0, slots := 0, locals := 90 } s m args below meth c H locs 0 0 Q (F0 m 27 ls []) := by
    intro n
    induction n with
    | zero =>
      intro x1 x2 x3 x4 k61 x5 v h
      exact nomatch (show (none : Option (SV)) = some u_v from h)
    | succ n ih =>
      intro x1 x2 x3 x4 k61 x5 v h hk61 H locs ls hP hD hS hl
      replace h : B_X2_pass_27 x1 x2 x3 x4 k61 (fuel (fun _ _ => none) (B_X2_pass_27 x1 x2 x3 x4 k61) n) x5 v = some u_v := h
      unfold B_X2_pass_27 at h
      refine lv_iload hx hb dX2_pass_27 (lv_at hl 5 rfl) ?_
      refine lv_aload_n hx hb dX2_pass_29 rfl (lv_at hl 0 rfl) ?_
      refine va_get (D := D) (ci := 2) (v := .int (sPe v)) (C := RX2) (T := TX2) (N := 10) hx hb hts i2 hown hK hP 0 rfl rfl 7 (by decide) f33 (fun _ h9 => h9) rfl dX2_pass_30 ?_
      refine lv_icmp_ge (tgt := 61) hx hb dX2_pass_33 (by decide) (fun c33 => ?_) (fun c33 => ?_)
      · replace h := fx_ite_t c33 h
        exact hk61 _ h _ _ _ hP hD hS (lv_sub hl [0, 1, 2, 3, 4] rfl)
      · replace h := fx_ite_f c33 h
        refine lv_aload_n hx hb dX2_pass_36 rfl (lv_at hl 0 rfl) ?_
        obtain ⟨r37, q37, h⟩ := bnd1_inv h
        refine kVI (n := 0) (As := []) (rest := []) CF hl hK hP hD hS hA (c_X2_canBeMended l D cI h0 h1 h2 h3 h4 h5 h6 h7 v  r37 q37) gX2_pass_X2_canBeMended rfl dX2_pass_37 (by decide +kernel) ⟨⟨rfl, rfl⟩, ⟨Nat.le_of_ble_eq_true rfl, Nat.le_of_ble_eq_true rfl⟩, Nat.zero_le _, Nat.zero_le _⟩ (JN.whole rfl) 0 rfl ⟨rfl, rfl⟩ rfl rfl (Nat.le_of_ble_eq_true rfl) (fun H locs hP hD hS => ?_)
        replace hP : va_P D vwCl (cS h0 h1 h2 h3 h4 h5 h6 h7 cI v) H := hP
        replace hD : va_D A (cS h0 h1 h2 h3 h4 h5 h6 h7 cI v) := hD
        refine lv_if_eq (tgt := 61) hx hb dX2_pass_40 (by decide) (fun c40 => ?_) (fun c40 => ?_)
        · replace h := fx_ite_t c40 h
          exact hk61 _ h _ _ _ hP hD hS (lv_sub hl [0, 1, 2, 3, 4] rfl)
        · replace h := fx_ite_f c40 h
          refine lv_iload hx hb dX2_pass_43 (lv_at hl 5 rfl) ?_
          refine lv_iload_n hx hb dX2_pass_45 rfl (lv_at hl 3 rfl) ?_
          refine lv_icmp_eq (tgt := 55) hx hb dX2_pass_46 (by decide) (fun c46 => ?_) (fun c46 => ?_)
          · replace h := fx_ite_t c46 h
            refine lv_iinc (v := (x5 + 1)) (lv' := [(5, .int (x5 + 1)), (0, .ref h0), (1, .int x1), (2, .int x2), (3, .int x3), (4, .int x4)]) hx hb dX2_pass_55 hl (k := 5) rfl (by first | rfl | decide) (by decide) rfl (fun ls hl => ?_)
            refine lv_goto (tgt := 27) hx hb dX2_pass_58 (by decide) ?_
            exact ih _ _ _ _ _ _ _ h hk61 _ _ _ hP hD hS (lv_sub hl [1, 2, 3, 4, 5, 0] rfl)
          · replace h := fx_ite_f c46 h
            refine lv_aload_n hx hb dX2_pass_49 rfl (lv_at hl 0 rfl) ?_
            refine lv_iload hx hb dX2_pass_50 (lv_at hl 5 rfl) ?_
            obtain ⟨u52_v, q52, h⟩ := bnd1_inv h
            refine kVV (n := 1) (As := [.int x5]) (rest := []) CF hl hK hP hD hS hA (c_X2_mendLeast l D cI h0 h1 h2 h3 h4 h5 h6 h7 v x5 u52_v q52) gX2_pass_X2_mendLeast rfl dX2_pass_52 (by decide +kernel) ⟨⟨rfl, rfl⟩, ⟨Nat.le_of_ble_eq_true rfl, Nat.le_of_ble_eq_true rfl⟩, Nat.zero_le _, Nat.zero_le _⟩ (JN.whole (w1 := (cS h0 h1 h2 h3 h4 h5 h6 h7 cI u52_v)) rfl) 0 rfl ⟨rfl, rfl⟩ rfl rfl (Nat.le_of_ble_eq_true rfl) (fun H locs hP hD hS => ?_)
            replace hP : va_P D vwCl (cS h0 h1 h2 h3 h4 h5 h6 h7 cI u52_v) H := hP
            replace hD : va_D A (cS h0 h1 h2 h3 h4 h5 h6 h7 cI u52_v) := hD
            refine lv_iinc (v := (x5 + 1)) (lv' := [(5, .int (x5 + 1)), (0, .ref h0), (1, .int x1), (2, .int x2), (3, .int x3), (4, .int x4)]) hx hb dX2_pass_55 hl (k := 5) rfl (by first | rfl | decide) (by decide) rfl (fun ls hl => ?_)
            refine lv_goto (tgt := 27) hx hb dX2_pass_58 (by decide) ?_
            exact ih _ _ _ _ _ _ _ h hk61 _ _ _ hP hD hS (lv_sub hl [1, 2, 3, 4, 5, 0] rfl)
  have L3 : ∀ (n : Nat) (x1 : Int32) (x2 : Int32) (x3 : Int32) (x4 : Int32) (v : SV), fuel (fun _ _ => none) (B_X2_pass_3 x1 x2 x3) n x4 v = some u_v → 
      ∀ (H : Heap) (locs : List Loc) (ls : Array Slot), va_P D vwCl (cS h0 h1 h2 h3 h4 h5 h6 h7 cI v) H → va_D A (cS h0 h1 h2 h3 h4 h5 h6 h7 cI v) → va_S A s.heap H locs → lv_has ls 6 [(0, .ref h0), (1, .int x1), (2, .int x2), (3, .int x3), (4, .int x4)] → W p l e { frames := 4, cells := 0, slots := 0, locals := 90 } s m args below meth c H locs 0 0 Q (F0 m 3 ls []) := by
    intro n
    induction n with
    | zero =>
      intro x1 x2 x3 x4 v h
      exact nomatch (show (none : Option (SV)) = some u_v from h)
    | succ n ih =>
      intro x1 x2 x3 x4 v h  H locs ls hP hD hS hl
      replace h : B_X2_pass_3 x1 x2 x3 (fuel (fun _ _ => none) (B_X2_pass_3 x1 x2 x3) n) x4 v = some u_v := h
      unfold B_X2_pass_3 at h
      refine lv_iload hx hb dX2_pass_3 (lv_at hl 4 rfl) ?_
      refine lv_iload_n hx hb dX2_pass_5 rfl (lv_at hl 1 rfl) ?_
      refine lv_icmp_ge (tgt := 67) hx hb dX2_pass_6 (by decide) (fun c6 => ?_) (fun c6 => ?_)
      · replace h := fx_ite_t c6 h
        obtain rfl := ret1 h
        exact rV hQ hx hb hr hlocks hAe hP hS dX2_pass_67
      · replace h := fx_ite_f c6 h
        refine lv_aload_n hx hb dX2_pass_9 rfl (lv_at hl 0 rfl) ?_
        refine lv_dup hx hb dX2_pass_10 rfl ?_
        refine va_get (D := D) (ci := 2) (v := .int (sDa v)) (C := RX2) (T := TX2) (N := 10) hx hb hts i2 hown hK hP 0 rfl rfl 9 (by decide) f40 (fun _ h9 => h9) rfl dX2_pass_11 ?_
        refine lv_iconst (v := 1) hx hb dX2_pass_14 (by decide) ?_
        refine lv_iadd hx hb dX2_pass_15 ?_
        refine va_put (D := D) (ci := 2) (v := .int ((sDa v) + (1 : Int32))) (ty := .int) (C := RX2) (T := TX2) (N := 10) hx hb hts i2 tyX2 tyX2_ok nmX2 hown hK hP hD hS 0 rfl rfl 9 (by decide) f40 (fun _ h9 => h9) rfl (by decide +kernel) rfl rfl (Nat.le_of_ble_eq_true rfl) dX2_pass_16 (fun H locs hP hD hS => ?_)
        replace hP : va_P D vwCl (cS h0 h1 h2 h3 h4 h5 h6 h7 cI (sUDa v ((sDa v) + (1 : Int32)))) H := hP
        replace hD : va_D A (cS h0 h1 h2 h3 h4 h5 h6 h7 cI (sUDa v ((sDa v) + (1 : Int32)))) := hD
        refine lv_aload_n hx hb dX2_pass_19 rfl (lv_at hl 0 rfl) ?_
        refine lv_iload_n hx hb dX2_pass_20 rfl (lv_at hl 2 rfl) ?_
        obtain ⟨u21_v, q21, h⟩ := bnd1_inv h
        refine kVV (n := 1) (As := [.int x2]) (rest := []) CF hl hK hP hD hS hA (c_X2_wearAll l D cI h0 h1 h2 h3 h4 h5 h6 h7 (sUDa v ((sDa v) + (1 : Int32))) x2 u21_v q21) gX2_pass_X2_wearAll rfl dX2_pass_21 (by decide +kernel) ⟨⟨rfl, rfl⟩, ⟨Nat.le_of_ble_eq_true rfl, Nat.le_of_ble_eq_true rfl⟩, Nat.zero_le _, Nat.zero_le _⟩ (JN.whole (w1 := (cS h0 h1 h2 h3 h4 h5 h6 h7 cI u21_v)) rfl) 0 rfl ⟨rfl, rfl⟩ rfl rfl (Nat.le_of_ble_eq_true rfl) (fun H locs hP hD hS => ?_)
        replace hP : va_P D vwCl (cS h0 h1 h2 h3 h4 h5 h6 h7 cI u21_v) H := hP
        replace hD : va_D A (cS h0 h1 h2 h3 h4 h5 h6 h7 cI u21_v) := hD
        refine lv_iconst (v := 0) hx hb dX2_pass_24 (by decide) ?_
        refine lv_istore (lv' := [(5, .int (0 : Int32)), (0, .ref h0), (1, .int x1), (2, .int x2), (3, .int x3), (4, .int x4)]) hx hb dX2_pass_25 hl (by decide) rfl (fun ls hl => ?_)
        refine L27 FU _ _ _ _ _ _ _ h (fun v h H locs ls hP hD hS hl => ?_) _ _ _ hP hD hS (lv_sub hl [1, 2, 3, 4, 5, 0] rfl)
        refine lv_iinc (v := (x4 + 1)) (lv' := [(4, .int (x4 + 1)), (0, .ref h0), (1, .int x1), (2, .int x2), (3, .int x3)]) hx hb dX2_pass_61 hl (k := 4) rfl (by first | rfl | decide) (by decide) rfl (fun ls hl => ?_)
        refine lv_goto (tgt := 3) hx hb dX2_pass_64 (by decide) ?_
        exact ih _ _ _ _ _ h  _ _ _ hP hD hS (lv_sub hl [1, 2, 3, 4, 0] rfl)
  unfold M_X2_pass at h
  refine lv_iconst (v := 0) hx hb dX2_pass_0 (by decide) ?_
  refine lv_istore (lv' := [(4, .int (0 : Int32)), (0, .ref h0), (1, .int p1), (2, .int p2), (3, .int p3)]) hx hb dX2_pass_1 hl (by decide) rfl (fun ls hl => ?_)
  exact L3 FU _ _ _ _ _ h  _ _ _ hP hD hS (lv_sub hl [1, 2, 3, 4, 0] rfl)
/-! X2_become -/
set_option maxHeartbeats 4000000 in
set_option maxRecDepth 100000 in
theorem c_X2_become (l : Launch) (D : va_G) (cI : ClassId) (h0 h1 h2 h3 h4 h5 h6 h7 g0 g1 g2 g3 g4 g5 g6 g7 : Nat) (v : SV) (o : SV)  (u_v : SV) (h : M_X2_become v o = some u_v) : mV l yX2_become wsX2_become { frames := 1, cells := 0, slots := 0, locals := 40 } D cI [.ref h0, .ref g0] (cS h0 h1 h2 h3 h4 h5 h6 h7 cI v ++ cS g0 g1 g2 g3 g4 g5 g6 g7 cI o) (cS h0 h1 h2 h3 h4 h5 h6 h7 cI u_v ++ cS g0 g1 g2 g3 g4 g5 g6 g7 cI o) := by
  intro sz
  refine mStart (cc := cX2_become) (maxL := 2) (ret := none) (own := RX2) (by decide) rfl rfl (Nat.le_of_ble_eq_true rfl) (lv := [(0, .ref h0), (1, .ref g0)]) rfl ?_
  intro p e s m args below meth c A ls Q H locs CF hr hlocks hK hP hD hS hA hAe hl hQ
  obtain ⟨hx, hb, hml, hown, hts⟩ := id CF
  have f9 := hts (.fieldLink RX2 9 "MendAnothersBreaking$State" "skills" "[I") (List.mem_of_getElem? (i := 1) rfl)
  have f15 := hts (.fieldLink RX2 15 "MendAnothersBreaking$State" "mended" "[I") (List.mem_of_getElem? (i := 6) rfl)
  have f18 := hts (.fieldLink RX2 18 "MendAnothersBreaking$State" "kinds" "[I") (List.mem_of_getElem? (i := 7) rfl)
  have f21 := hts (.fieldLink RX2 21 "MendAnothersBreaking$State" "figures" "[I") (List.mem_of_getElem? (i := 8) rfl)
  have f24 := hts (.fieldLink RX2 24 "MendAnothersBreaking$State" "owners" "[I") (List.mem_of_getElem? (i := 9) rfl)
  have f27 := hts (.fieldLink RX2 27 "MendAnothersBreaking$State" "wear" "[I") (List.mem_of_getElem? (i := 10) rfl)
  have f30 := hts (.fieldLink RX2 30 "MendAnothersBreaking$State" "breakers" "[I") (List.mem_of_getElem? (i := 11) rfl)
  have f33 := hts (.fieldLink RX2 33 "MendAnothersBreaking$State" "people" "I") (List.mem_of_getElem? (i := 12) rfl)
  have f37 := hts (.fieldLink RX2 37 "MendAnothersBreaking$State" "things" "I") (List.mem_of_getElem? (i := 13) rfl)
  have f40 := hts (.fieldLink RX2 40 "MendAnothersBreaking$State" "day" "I") (List.mem_of_getElem? (i := 14) rfl)
  have i2 : ∀ w ∈ wsX20, w ∈ wsX2_become := fun w h => List.mem_cons_of_mem _ (List.mem_append_right _ h)
  have cp_l := hts (.methodLink RX2 43 arraycopyName) (List.mem_of_getElem? (i := 2) rfl)
  have cp_n := hts (.native arraycopyName) (List.mem_of_getElem? (i := 3) rfl)
  have cp_s := hts (.static arraycopyName) (List.mem_of_getElem? (i := 4) rfl)
  have cp_i := hts (.initialized "java/lang/System") (List.mem_of_getElem? (i := 5) rfl)
  unfold M_X2_become at h
  refine lv_aload_n hx hb dX2_become_0 rfl (lv_at hl 1 rfl) ?_
  refine va_get (D := D) (ci := 2) (v := .ref g1) (C := RX2) (T := TX2) (N := 10) hx hb hts i2 hown hK hP 8 rfl rfl 0 (by decide) f9 (fun _ h9 => h9) rfl dX2_become_1 ?_
  refine lv_iconst (v := 0) hx hb dX2_become_4 (by decide) ?_
  refine lv_aload_n hx hb dX2_become_5 rfl (lv_at hl 0 rfl) ?_
  refine va_get (D := D) (ci := 2) (v := .ref h1) (C := RX2) (T := TX2) (N := 10) hx hb hts i2 hown hK hP 0 rfl rfl 0 (by decide) f9 (fun _ h9 => h9) rfl dX2_become_6 ?_
  refine lv_iconst (v := 0) hx hb dX2_become_9 (by decide) ?_
  refine lv_bipush (v := 6) hx hb dX2_become_10 (by decide) ?_
  refine cpA (n := 6) (f := (sSk o)) (g := (sSk v)) hx hb (hml.trans hl.1.symm) hown cp_l cp_n cp_s cp_i hK hP hD hS 9 1 0 rfl rfl rfl (by decide) (by decide) (by decide) rfl rfl (Nat.le_of_ble_eq_true rfl) (Nat.le_of_ble_eq_true rfl) dX2_become_12 (fun H locs hP hD hS => ?_)
  replace hP : va_P D vwCl (cS h0 h1 h2 h3 h4 h5 h6 h7 cI (sUSk v (sSk o)) ++ cS g0 g1 g2 g3 g4 g5 g6 g7 cI o) H := hP
  replace hD : va_D A (cS h0 h1 h2 h3 h4 h5 h6 h7 cI (sUSk v (sSk o)) ++ cS g0 g1 g2 g3 g4 g5 g6 g7 cI o) := hD
  refine lv_aload_n hx hb dX2_become_15 rfl (lv_at hl 1 rfl) ?_
  refine va_get (D := D) (ci := 2) (v := .ref g2) (C := RX2) (T := TX2) (N := 10) hx hb hts i2 hown hK hP 8 rfl rfl 1 (by decide) f15 (fun _ h9 => h9) rfl dX2_become_16 ?_
  refine lv_iconst (v := 0) hx hb dX2_become_19 (by decide) ?_
  refine lv_aload_n hx hb dX2_become_20 rfl (lv_at hl 0 rfl) ?_
  refine va_get (D := D) (ci := 2) (v := .ref h2) (C := RX2) (T := TX2) (N := 10) hx hb hts i2 hown hK hP 0 rfl rfl 1 (by decide) f15 (fun _ h9 => h9) rfl dX2_become_21 ?_
  refine lv_iconst (v := 0) hx hb dX2_become_24 (by decide) ?_
  refine lv_bipush (v := 6) hx hb dX2_become_25 (by decide) ?_
  refine cpA (n := 6) (f := (sMe o)) (g := (sMe v)) hx hb (hml.trans hl.1.symm) hown cp_l cp_n cp_s cp_i hK hP hD hS 10 2 0 rfl rfl rfl (by decide) (by decide) (by decide) rfl rfl (Nat.le_of_ble_eq_true rfl) (Nat.le_of_ble_eq_true rfl) dX2_become_27 (fun H locs hP hD hS => ?_)
  replace hP : va_P D vwCl (cS h0 h1 h2 h3 h4 h5 h6 h7 cI (sUMe (sUSk v (sSk o)) (sMe o)) ++ cS g0 g1 g2 g3 g4 g5 g6 g7 cI o) H := hP
  replace hD : va_D A (cS h0 h1 h2 h3 h4 h5 h6 h7 cI (sUMe (sUSk v (sSk o)) (sMe o)) ++ cS g0 g1 g2 g3 g4 g5 g6 g7 cI o) := hD
  refine lv_aload_n hx hb dX2_become_30 rfl (lv_at hl 1 rfl) ?_
  refine va_get (D := D) (ci := 2) (v := .ref g3) (C := RX2) (T := TX2) (N := 10) hx hb hts i2 hown hK hP 8 rfl rfl 2 (by decide) f18 (fun _ h9 => h9) rfl dX2_become_31 ?_
  refine lv_iconst (v := 0) hx hb dX2_become_34 (by decide) ?_
  refine lv_aload_n hx hb dX2_become_35 rfl (lv_at hl 0 rfl) ?_
  refine va_get (D := D) (ci := 2) (v := .ref h3) (C := RX2) (T := TX2) (N := 10) hx hb hts i2 hown hK hP 0 rfl rfl 2 (by decide) f18 (fun _ h9 => h9) rfl dX2_become_36 ?_
  refine lv_iconst (v := 0) hx hb dX2_become_39 (by decide) ?_
  refine lv_bipush (v := 9) hx hb dX2_become_40 (by decide) ?_
  refine cpA (n := 9) (f := (sKi o)) (g := (sKi v)) hx hb (hml.trans hl.1.symm) hown cp_l cp_n cp_s cp_i hK hP hD hS 11 3 0 rfl rfl rfl (by decide) (by decide) (by decide) rfl rfl (Nat.le_of_ble_eq_true rfl) (Nat.le_of_ble_eq_true rfl) dX2_become_42 (fun H locs hP hD hS => ?_)
  replace hP : va_P D vwCl (cS h0 h1 h2 h3 h4 h5 h6 h7 cI (sUKi (sUMe (sUSk v (sSk o)) (sMe o)) (sKi o)) ++ cS g0 g1 g2 g3 g4 g5 g6 g7 cI o) H := hP
  replace hD : va_D A (cS h0 h1 h2 h3 h4 h5 h6 h7 cI (sUKi (sUMe (sUSk v (sSk o)) (sMe o)) (sKi o)) ++ cS g0 g1 g2 g3 g4 g5 g6 g7 cI o) := hD
  refine lv_aload_n hx hb dX2_become_45 rfl (lv_at hl 1 rfl) ?_
  refine va_get (D := D) (ci := 2) (v := .ref g4) (C := RX2) (T := TX2) (N := 10) hx hb hts i2 hown hK hP 8 rfl rfl 3 (by decide) f21 (fun _ h9 => h9) rfl dX2_become_46 ?_
  refine lv_iconst (v := 0) hx hb dX2_become_49 (by decide) ?_
  refine lv_aload_n hx hb dX2_become_50 rfl (lv_at hl 0 rfl) ?_
  refine va_get (D := D) (ci := 2) (v := .ref h4) (C := RX2) (T := TX2) (N := 10) hx hb hts i2 hown hK hP 0 rfl rfl 3 (by decide) f21 (fun _ h9 => h9) rfl dX2_become_51 ?_
  refine lv_iconst (v := 0) hx hb dX2_become_54 (by decide) ?_
  refine lv_bipush (v := 9) hx hb dX2_become_55 (by decide) ?_
  refine cpA (n := 9) (f := (sFi o)) (g := (sFi v)) hx hb (hml.trans hl.1.symm) hown cp_l cp_n cp_s cp_i hK hP hD hS 12 4 0 rfl rfl rfl (by decide) (by decide) (by decide) rfl rfl (Nat.le_of_ble_eq_true rfl) (Nat.le_of_ble_eq_true rfl) dX2_become_57 (fun H locs hP hD hS => ?_)
  replace hP : va_P D vwCl (cS h0 h1 h2 h3 h4 h5 h6 h7 cI (sUFi (sUKi (sUMe (sUSk v (sSk o)) (sMe o)) (sKi o)) (sFi o)) ++ cS g0 g1 g2 g3 g4 g5 g6 g7 cI o) H := hP
  replace hD : va_D A (cS h0 h1 h2 h3 h4 h5 h6 h7 cI (sUFi (sUKi (sUMe (sUSk v (sSk o)) (sMe o)) (sKi o)) (sFi o)) ++ cS g0 g1 g2 g3 g4 g5 g6 g7 cI o) := hD
  refine lv_aload_n hx hb dX2_become_60 rfl (lv_at hl 1 rfl) ?_
  refine va_get (D := D) (ci := 2) (v := .ref g5) (C := RX2) (T := TX2) (N := 10) hx hb hts i2 hown hK hP 8 rfl rfl 4 (by decide) f24 (fun _ h9 => h9) rfl dX2_become_61 ?_
  refine lv_iconst (v := 0) hx hb dX2_become_64 (by decide) ?_
  refine lv_aload_n hx hb dX2_become_65 rfl (lv_at hl 0 rfl) ?_
  refine va_get (D := D) (ci := 2) (v := .ref h5) (C := RX2) (T := TX2) (N := 10) hx hb hts i2 hown hK hP 0 rfl rfl 4 (by decide) f24 (fun _ h9 => h9) rfl dX2_become_66 ?_
  refine lv_iconst (v := 0) hx hb dX2_become_69 (by decide) ?_
  refine lv_bipush (v := 9) hx hb dX2_become_70 (by decide) ?_
  refine cpA (n := 9) (f := (sOw o)) (g := (sOw v)) hx hb (hml.trans hl.1.symm) hown cp_l cp_n cp_s cp_i hK hP hD hS 13 5 0 rfl rfl rfl (by decide) (by decide) (by decide) rfl rfl (Nat.le_of_ble_eq_true rfl) (Nat.le_of_ble_eq_true rfl) dX2_become_72 (fun H locs hP hD hS => ?_)
  replace hP : va_P D vwCl (cS h0 h1 h2 h3 h4 h5 h6 h7 cI (sUOw (sUFi (sUKi (sUMe (sUSk v (sSk o)) (sMe o)) (sKi o)) (sFi o)) (sOw o)) ++ cS g0 g1 g2 g3 g4 g5 g6 g7 cI o) H := hP
  replace hD : va_D A (cS h0 h1 h2 h3 h4 h5 h6 h7 cI (sUOw (sUFi (sUKi (sUMe (sUSk v (sSk o)) (sMe o)) (sKi o)) (sFi o)) (sOw o)) ++ cS g0 g1 g2 g3 g4 g5 g6 g7 cI o) := hD
  refine lv_aload_n hx hb dX2_become_75 rfl (lv_at hl 1 rfl) ?_
  refine va_get (D := D) (ci := 2) (v := .ref g6) (C := RX2) (T := TX2) (N := 10) hx hb hts i2 hown hK hP 8 rfl rfl 5 (by decide) f27 (fun _ h9 => h9) rfl dX2_become_76 ?_
  refine lv_iconst (v := 0) hx hb dX2_become_79 (by decide) ?_
  refine lv_aload_n hx hb dX2_become_80 rfl (lv_at hl 0 rfl) ?_
  refine va_get (D := D) (ci := 2) (v := .ref h6) (C := RX2) (T := TX2) (N := 10) hx hb hts i2 hown hK hP 0 rfl rfl 5 (by decide) f27 (fun _ h9 => h9) rfl dX2_become_81 ?_
  refine lv_iconst (v := 0) hx hb dX2_become_84 (by decide) ?_
  refine lv_bipush (v := 9) hx hb dX2_become_85 (by decide) ?_
  refine cpA (n := 9) (f := (sWe o)) (g := (sWe v)) hx hb (hml.trans hl.1.symm) hown cp_l cp_n cp_s cp_i hK hP hD hS 14 6 0 rfl rfl rfl (by decide) (by decide) (by decide) rfl rfl (Nat.le_of_ble_eq_true rfl) (Nat.le_of_ble_eq_true rfl) dX2_become_87 (fun H locs hP hD hS => ?_)
  replace hP : va_P D vwCl (cS h0 h1 h2 h3 h4 h5 h6 h7 cI (sUWe (sUOw (sUFi (sUKi (sUMe (sUSk v (sSk o)) (sMe o)) (sKi o)) (sFi o)) (sOw o)) (sWe o)) ++ cS g0 g1 g2 g3 g4 g5 g6 g7 cI o) H := hP
  replace hD : va_D A (cS h0 h1 h2 h3 h4 h5 h6 h7 cI (sUWe (sUOw (sUFi (sUKi (sUMe (sUSk v (sSk o)) (sMe o)) (sKi o)) (sFi o)) (sOw o)) (sWe o)) ++ cS g0 g1 g2 g3 g4 g5 g6 g7 cI o) := hD
  refine lv_aload_n hx hb dX2_become_90 rfl (lv_at hl 1 rfl) ?_
  refine va_get (D := D) (ci := 2) (v := .ref g7) (C := RX2) (T := TX2) (N := 10) hx hb hts i2 hown hK hP 8 rfl rfl 6 (by decide) f30 (fun _ h9 => h9) rfl dX2_become_91 ?_
  refine lv_iconst (v := 0) hx hb dX2_become_94 (by decide) ?_
  refine lv_aload_n hx hb dX2_become_95 rfl (lv_at hl 0 rfl) ?_
  refine va_get (D := D) (ci := 2) (v := .ref h7) (C := RX2) (T := TX2) (N := 10) hx hb hts i2 hown hK hP 0 rfl rfl 6 (by decide) f30 (fun _ h9 => h9) rfl dX2_become_96 ?_
  refine lv_iconst (v := 0) hx hb dX2_become_99 (by decide) ?_
  refine lv_bipush (v := 9) hx hb dX2_become_100 (by decide) ?_
  refine cpA (n := 9) (f := (sBr o)) (g := (sBr v)) hx hb (hml.trans hl.1.symm) hown cp_l cp_n cp_s cp_i hK hP hD hS 15 7 0 rfl rfl rfl (by decide) (by decide) (by decide) rfl rfl (Nat.le_of_ble_eq_true rfl) (Nat.le_of_ble_eq_true rfl) dX2_become_102 (fun H locs hP hD hS => ?_)
  replace hP : va_P D vwCl (cS h0 h1 h2 h3 h4 h5 h6 h7 cI (sUBr (sUWe (sUOw (sUFi (sUKi (sUMe (sUSk v (sSk o)) (sMe o)) (sKi o)) (sFi o)) (sOw o)) (sWe o)) (sBr o)) ++ cS g0 g1 g2 g3 g4 g5 g6 g7 cI o) H := hP
  replace hD : va_D A (cS h0 h1 h2 h3 h4 h5 h6 h7 cI (sUBr (sUWe (sUOw (sUFi (sUKi (sUMe (sUSk v (sSk o)) (sMe o)) (sKi o)) (sFi o)) (sOw o)) (sWe o)) (sBr o)) ++ cS g0 g1 g2 g3 g4 g5 g6 g7 cI o) := hD
  refine lv_aload_n hx hb dX2_become_105 rfl (lv_at hl 0 rfl) ?_
  refine lv_aload_n hx hb dX2_become_106 rfl (lv_at hl 1 rfl) ?_
  refine va_get (D := D) (ci := 2) (v := .int (sPe o)) (C := RX2) (T := TX2) (N := 10) hx hb hts i2 hown hK hP 8 rfl rfl 7 (by decide) f33 (fun _ h9 => h9) rfl dX2_become_107 ?_
  refine va_put (D := D) (ci := 2) (v := .int (sPe o)) (ty := .int) (C := RX2) (T := TX2) (N := 10) hx hb hts i2 tyX2 tyX2_ok nmX2 hown hK hP hD hS 0 rfl rfl 7 (by decide) f33 (fun _ h9 => h9) rfl (by decide +kernel) rfl rfl (Nat.le_of_ble_eq_true rfl) dX2_become_110 (fun H locs hP hD hS => ?_)
  replace hP : va_P D vwCl (cS h0 h1 h2 h3 h4 h5 h6 h7 cI (sUPe (sUBr (sUWe (sUOw (sUFi (sUKi (sUMe (sUSk v (sSk o)) (sMe o)) (sKi o)) (sFi o)) (sOw o)) (sWe o)) (sBr o)) (sPe o)) ++ cS g0 g1 g2 g3 g4 g5 g6 g7 cI o) H := hP
  replace hD : va_D A (cS h0 h1 h2 h3 h4 h5 h6 h7 cI (sUPe (sUBr (sUWe (sUOw (sUFi (sUKi (sUMe (sUSk v (sSk o)) (sMe o)) (sKi o)) (sFi o)) (sOw o)) (sWe o)) (sBr o)) (sPe o)) ++ cS g0 g1 g2 g3 g4 g5 g6 g7 cI o) := hD
  refine lv_aload_n hx hb dX2_become_113 rfl (lv_at hl 0 rfl) ?_
  refine lv_aload_n hx hb dX2_become_114 rfl (lv_at hl 1 rfl) ?_
  refine va_get (D := D) (ci := 2) (v := .int (sTh o)) (C := RX2) (T := TX2) (N := 10) hx hb hts i2 hown hK hP 8 rfl rfl 8 (by decide) f37 (fun _ h9 => h9) rfl dX2_become_115 ?_
  refine va_put (D := D) (ci := 2) (v := .int (sTh o)) (ty := .int) (C := RX2) (T := TX2) (N := 10) hx hb hts i2 tyX2 tyX2_ok nmX2 hown hK hP hD hS 0 rfl rfl 8 (by decide) f37 (fun _ h9 => h9) rfl (by decide +kernel) rfl rfl (Nat.le_of_ble_eq_true rfl) dX2_become_118 (fun H locs hP hD hS => ?_)
  replace hP : va_P D vwCl (cS h0 h1 h2 h3 h4 h5 h6 h7 cI (sUTh (sUPe (sUBr (sUWe (sUOw (sUFi (sUKi (sUMe (sUSk v (sSk o)) (sMe o)) (sKi o)) (sFi o)) (sOw o)) (sWe o)) (sBr o)) (sPe o)) (sTh o)) ++ cS g0 g1 g2 g3 g4 g5 g6 g7 cI o) H := hP
  replace hD : va_D A (cS h0 h1 h2 h3 h4 h5 h6 h7 cI (sUTh (sUPe (sUBr (sUWe (sUOw (sUFi (sUKi (sUMe (sUSk v (sSk o)) (sMe o)) (sKi o)) (sFi o)) (sOw o)) (sWe o)) (sBr o)) (sPe o)) (sTh o)) ++ cS g0 g1 g2 g3 g4 g5 g6 g7 cI o) := hD
  refine lv_aload_n hx hb dX2_become_121 rfl (lv_at hl 0 rfl) ?_
  refine lv_aload_n hx hb dX2_become_122 rfl (lv_at hl 1 rfl) ?_
  refine va_get (D := D) (ci := 2) (v := .int (sDa o)) (C := RX2) (T := TX2) (N := 10) hx hb hts i2 hown hK hP 8 rfl rfl 9 (by decide) f40 (fun _ h9 => h9) rfl dX2_become_123 ?_
  refine va_put (D := D) (ci := 2) (v := .int (sDa o)) (ty := .int) (C := RX2) (T := TX2) (N := 10) hx hb hts i2 tyX2 tyX2_ok nmX2 hown hK hP hD hS 0 rfl rfl 9 (by decide) f40 (fun _ h9 => h9) rfl (by decide +kernel) rfl rfl (Nat.le_of_ble_eq_true rfl) dX2_become_126 (fun H locs hP hD hS => ?_)
  replace hP : va_P D vwCl (cS h0 h1 h2 h3 h4 h5 h6 h7 cI (sUDa (sUTh (sUPe (sUBr (sUWe (sUOw (sUFi (sUKi (sUMe (sUSk v (sSk o)) (sMe o)) (sKi o)) (sFi o)) (sOw o)) (sWe o)) (sBr o)) (sPe o)) (sTh o)) (sDa o)) ++ cS g0 g1 g2 g3 g4 g5 g6 g7 cI o) H := hP
  replace hD : va_D A (cS h0 h1 h2 h3 h4 h5 h6 h7 cI (sUDa (sUTh (sUPe (sUBr (sUWe (sUOw (sUFi (sUKi (sUMe (sUSk v (sSk o)) (sMe o)) (sKi o)) (sFi o)) (sOw o)) (sWe o)) (sBr o)) (sPe o)) (sTh o)) (sDa o)) ++ cS g0 g1 g2 g3 g4 g5 g6 g7 cI o) := hD
  obtain rfl := ret1 h
  exact rV hQ hx hb hr hlocks hAe hP hS dX2_become_129
/-! X2_isMourned -/
set_option maxHeartbeats 4000000 in
set_option maxRecDepth 100000 in
theorem c_X2_isMourned (l : Launch) (D : va_G) (cI : ClassId) (h0 h1 h2 h3 h4 h5 h6 h7 : Nat) (v : SV) (p1 : Int32) (res : Int32) (h : M_X2_isMourned v p1 = some res) : mI l yX2_isMourned wsX2_isMourned { frames := 0, cells := 0, slots := 0, locals := 0 } D cI [.ref h0, .int p1] (cS h0 h1 h2 h3 h4 h5 h6 h7 cI v) (cS h0 h1 h2 h3 h4 h5 h6 h7 cI v) res := by
  intro sz
  refine mStart (cc := cX2_isMourned) (maxL := 2) (ret := (some .boolean)) (own := RX2) (by decide) rfl rfl (Nat.le_of_ble_eq_true rfl) (lv := [(0, .ref h0), (1, .int p1)]) rfl ?_
  intro p e s m args below meth c A ls Q H locs CF hr hlocks hK hP hD hS hA hAe hl hQ
  obtain ⟨hx, hb, hml, hown, hts⟩ := id CF
  have f30 := hts (.fieldLink RX2 30 "MendAnothersBreaking$State" "breakers" "[I") (List.mem_of_getElem? (i := 1) rfl)
  have i2 : ∀ w ∈ wsX20, w ∈ wsX2_isMourned := fun w h => List.mem_cons_of_mem _ (List.mem_append_right _ h)
  unfold M_X2_isMourned at h
  refine lv_aload_n hx hb dX2_isMourned_0 rfl (lv_at hl 0 rfl) ?_
  refine va_get (D := D) (ci := 2) (v := .ref h7) (C := RX2) (T := TX2) (N := 10) hx hb hts i2 hown hK hP 0 rfl rfl 6 (by decide) f30 (fun _ h9 => h9) rfl dX2_isMourned_1 ?_
  refine lv_iload_n hx hb dX2_isMourned_4 rfl (lv_at hl 1 rfl) ?_
  obtain ⟨g5, h⟩ := chk_inv h
  refine va_iald (n := 9) (f := (sBr v)) hx hb hK hP 7 0 rfl rfl g5 dX2_isMourned_5 ?_
  refine lv_bipush (v := (-8)) hx hb dX2_isMourned_6 (by decide) ?_
  refine lv_icmp_ne (tgt := 15) hx hb dX2_isMourned_8 (by decide) (fun c8 => ?_) (fun c8 => ?_)
  · replace h := fx_ite_f c8 h
    refine lv_iconst (v := 0) hx hb dX2_isMourned_15 (by decide) ?_
    obtain rfl := ret1 h
    exact rI hQ hx hb hr hlocks hAe hP hS rfl rfl dX2_isMourned_16
  · replace h := fx_ite_t c8 h
    refine lv_iconst (v := 1) hx hb dX2_isMourned_11 (by decide) ?_
    refine lv_goto (tgt := 16) hx hb dX2_isMourned_12 (by decide) ?_
    obtain rfl := ret1 h
    exact rI hQ hx hb hr hlocks hAe hP hS rfl rfl dX2_isMourned_16
/-! X2_isByAnother -/
set_option maxHeartbeats 4000000 in
set_option maxRecDepth 100000 in
theorem c_X2_isByAnother (l : Launch) (D : va_G) (cI : ClassId) (h0 h1 h2 h3 h4 h5 h6 h7 : Nat) (v : SV) (p1 : Int32) (res : Int32) (h : M_X2_isByAnother v p1 = some res) : mI l yX2_isByAnother wsX2_isByAnother { frames := 0, cells := 0, slots := 0, locals := 0 } D cI [.ref h0, .int p1] (cS h0 h1 h2 h3 h4 h5 h6 h7 cI v) (cS h0 h1 h2 h3 h4 h5 h6 h7 cI v) res := by
  intro sz
  refine mStart (cc := cX2_isByAnother) (maxL := 2) (ret := (some .boolean)) (own := RX2) (by decide) rfl rfl (Nat.le_of_ble_eq_true rfl) (lv := [(0, .ref h0), (1, .int p1)]) rfl ?_
  intro p e s m args below meth c A ls Q H locs CF hr hlocks hK hP hD hS hA hAe hl hQ
  obtain ⟨hx, hb, hml, hown, hts⟩ := id CF
  have f24 := hts (.fieldLink RX2 24 "MendAnothersBreaking$State" "owners" "[I") (List.mem_of_getElem? (i := 2) rfl)
  have f30 := hts (.fieldLink RX2 30 "MendAnothersBreaking$State" "breakers" "[I") (List.mem_of_getElem? (i := 1) rfl)
  have i2 : ∀ w ∈ wsX20, w ∈ wsX2_isByAnother := fun w h => List.mem_cons_of_mem _ (List.mem_append_right _ h)
  unfold M_X2_isByAnother at h
  refine lv_aload_n hx hb dX2_isByAnother_0 rfl (lv_at hl 0 rfl) ?_
  refine va_get (D := D) (ci := 2) (v := .ref h7) (C := RX2) (T := TX2) (N := 10) hx hb hts i2 hown hK hP 0 rfl rfl 6 (by decide) f30 (fun _ h9 => h9) rfl dX2_isByAnother_1 ?_
  refine lv_iload_n hx hb dX2_isByAnother_4 rfl (lv_at hl 1 rfl) ?_
  obtain ⟨g5, h⟩ := chk_inv h
  refine va_iald (n := 9) (f := (sBr v)) hx hb hK hP 7 0 rfl rfl g5 dX2_isByAnother_5 ?_
  refine lv_if_lt (tgt := 28) hx hb dX2_isByAnother_6 (by decide) (fun c6 => ?_) (fun c6 => ?_)
  · replace h := fx_ite_t c6 h
    refine lv_iconst (v := 0) hx hb dX2_isByAnother_28 (by decide) ?_
    obtain rfl := ret1 h
    exact rI hQ hx hb hr hlocks hAe hP hS rfl rfl dX2_isByAnother_29
  · replace h := fx_ite_f c6 h
    refine lv_aload_n hx hb dX2_isByAnother_9 rfl (lv_at hl 0 rfl) ?_
    refine va_get (D := D) (ci := 2) (v := .ref h7) (C := RX2) (T := TX2) (N := 10) hx hb hts i2 hown hK hP 0 rfl rfl 6 (by decide) f30 (fun _ h9 => h9) rfl dX2_isByAnother_10 ?_
    refine lv_iload_n hx hb dX2_isByAnother_13 rfl (lv_at hl 1 rfl) ?_
    obtain ⟨g14, h⟩ := chk_inv h
    refine va_iald (n := 9) (f := (sBr v)) hx hb hK hP 7 0 rfl rfl g14 dX2_isByAnother_14 ?_
    refine lv_aload_n hx hb dX2_isByAnother_15 rfl (lv_at hl 0 rfl) ?_
    refine va_get (D := D) (ci := 2) (v := .ref h5) (C := RX2) (T := TX2) (N := 10) hx hb hts i2 hown hK hP 0 rfl rfl 4 (by decide) f24 (fun _ h9 => h9) rfl dX2_isByAnother_16 ?_
    refine lv_iload_n hx hb dX2_isByAnother_19 rfl (lv_at hl 1 rfl) ?_
    obtain ⟨g20, h⟩ := chk_inv h
    refine va_iald (n := 9) (f := (sOw v)) hx hb hK hP 5 0 rfl rfl g20 dX2_isByAnother_20 ?_
    refine lv_icmp_eq (tgt := 28) hx hb dX2_isByAnother_21 (by decide) (fun c21 => ?_) (fun c21 => ?_)
    · replace h := fx_ite_t c21 h
      refine lv_iconst (v := 0) hx hb dX2_isByAnother_28 (by decide) ?_
      obtain rfl := ret1 h
      exact rI hQ hx hb hr hlocks hAe hP hS rfl rfl dX2_isByAnother_29
    · replace h := fx_ite_f c21 h
      refine lv_iconst (v := 1) hx hb dX2_isByAnother_24 (by decide) ?_
      refine lv_goto (tgt := 29) hx hb dX2_isByAnother_25 (by decide) ?_
      obtain rfl := ret1 h
      exact rI hQ hx hb hr hlocks hAe hP hS rfl rfl dX2_isByAnother_29
/-! X2_ableBits -/
set_option maxHeartbeats 4000000 in
set_option maxRecDepth 100000 in
theorem c_X2_ableBits (l : Launch) (D : va_G) (cI : ClassId) (h0 h1 h2 h3 h4 h5 h6 h7 : Nat) (v : SV) (p1 : Int32) (res : Int32) (h : M_X2_ableBits v p1 = some res) : mI l yX2_ableBits wsX2_ableBits { frames := 2, cells := 0, slots := 0, locals := 45 } D cI [.ref h0, .int p1] (cS h0 h1 h2 h3 h4 h5 h6 h7 cI v) (cS h0 h1 h2 h3 h4 h5 h6 h7 cI v) res := by
  intro sz
  refine mStart (cc := cX2_ableBits) (maxL := 5) (ret := (some .int)) (own := RX2) (by decide) rfl rfl (Nat.le_of_ble_eq_true rfl) (lv := [(0, .ref h0), (1, .int p1)]) rfl ?_
  intro p e s m args below meth c A ls Q H locs CF hr hlocks hK hP hD hS hA hAe hl hQ
  obtain ⟨hx, hb, hml, hown, hts⟩ := id CF
  have f9 := hts (.fieldLink RX2 9 "MendAnothersBreaking$State" "skills" "[I") (List.mem_of_getElem? (i := 2) rfl)
  have f33 := hts (.fieldLink RX2 33 "MendAnothersBreaking$State" "people" "I") (List.mem_of_getElem? (i := 1) rfl)
  have i2 : ∀ w ∈ wsX20, w ∈ wsX2_ableBits := fun w h => List.mem_cons_of_mem _ (List.mem_append_right _ h)
  have L11 : ∀ (n : Nat) (x2 : Int32) (x3 : Int32) (x4 : Int32), fuel (fun _ _ => none) (B_X2_ableBits_11 x2 v) n x3 x4 = some res → 
      ∀ (H : Heap) (locs : List Loc) (ls : Array Slot), va_P D vwCl (cS h0 h1 h2 h3 h4 h5 h6 h7 cI v) H → va_D A (cS h0 h1 h2 h3 h4 h5 h6 h7 cI v) → va_S A s.heap H locs → lv_has ls 5 [(0, .ref h0), (2, .int x2), (3, .int x3), (4, .int x4)] → W p l e { frames := 2, cells := 0, slots := 0, locals := 45 } s m args below meth c H locs 0 0 Q (F0 m 11 ls []) := by
    intro n
    induction n with
    | zero =>
      intro x2 x3 x4 h
      exact nomatch (show (none : Option (Int32)) = some res from h)
    | succ n ih =>
      intro x2 x3 x4 h  H locs ls hP hD hS hl
      replace h : B_X2_ableBits_11 x2 v (fuel (fun _ _ => none) (B_X2_ableBits_11 x2 v) n) x3 x4 = some res := h
      unfold B_X2_ableBits_11 at h
      refine lv_iload hx hb dX2_ableBits_11 (lv_at hl 3 rfl) ?_
      refine lv_aload_n hx hb dX2_ableBits_13 rfl (lv_at hl 0 rfl) ?_
      refine va_get (D := D) (ci := 2) (v := .int (sPe v)) (C := RX2) (T := TX2) (N := 10) hx hb hts i2 hown hK hP 0 rfl rfl 7 (by decide) f33 (fun _ h9 => h9) rfl dX2_ableBits_14 ?_
      refine lv_icmp_ge (tgt := 44) hx hb dX2_ableBits_17 (by decide) (fun c17 => ?_) (fun c17 => ?_)
      · replace h := fx_ite_t c17 h
        refine lv_iload_n hx hb dX2_ableBits_44 rfl (lv_at hl 2 rfl) ?_
        obtain rfl := ret1 h
        exact rI hQ hx hb hr hlocks hAe hP hS rfl rfl dX2_ableBits_45
      · replace h := fx_ite_f c17 h
        refine lv_aload_n hx hb dX2_ableBits_20 rfl (lv_at hl 0 rfl) ?_
        refine va_get (D := D) (ci := 2) (v := .ref h1) (C := RX2) (T := TX2) (N := 10) hx hb hts i2 hown hK hP 0 rfl rfl 0 (by decide) f9 (fun _ h9 => h9) rfl dX2_ableBits_21 ?_
        refine lv_iload hx hb dX2_ableBits_24 (lv_at hl 3 rfl) ?_
        obtain ⟨g26, h⟩ := chk_inv h
        refine va_iald (n := 6) (f := (sSk v)) hx hb hK hP 1 0 rfl rfl g26 dX2_ableBits_26 ?_
        refine lv_iload_n hx hb dX2_ableBits_27 rfl (lv_at hl 1 rfl) ?_
        refine lv_icmp_lt (tgt := 38) hx hb dX2_ableBits_28 (by decide) (fun c28 => ?_) (fun c28 => ?_)
        · replace h := fx_ite_t c28 h
          refine lv_iinc (v := (x4 + 1)) (lv' := [(4, .int (x4 + 1)), (0, .ref h0), (2, .int x2), (3, .int x3)]) hx hb dX2_ableBits_38 hl (k := 3) rfl (by first | rfl | decide) (by decide) rfl (fun ls hl => ?_)
          refine lv_goto (tgt := 11) hx hb dX2_ableBits_41 (by decide) ?_
          exact ih _ _ _ h  _ _ _ hP hD hS (lv_sub hl [1, 2, 3, 0] rfl)
        · replace h := fx_ite_f c28 h
          refine lv_iload_n hx hb dX2_ableBits_31 rfl (lv_at hl 2 rfl) ?_
          refine lv_iconst (v := 1) hx hb dX2_ableBits_32 (by decide) ?_
          refine lv_iload hx hb dX2_ableBits_33 (lv_at hl 3 rfl) ?_
          refine lv_ishl hx hb dX2_ableBits_35 ?_
          refine lv_ior hx hb dX2_ableBits_36 ?_
          refine lv_istore_n (lv' := [(3, .int (x3 ||| ((1 : Int32) <<< (x4 &&& 31)))), (0, .ref h0), (2, .int x2), (4, .int x4)]) hx hb dX2_ableBits_37 rfl hl (by decide) rfl (fun ls hl => ?_)
          refine lv_iinc (v := (x4 + 1)) (lv' := [(4, .int (x4 + 1)), (3, .int (x3 ||| ((1 : Int32) <<< (x4 &&& 31)))), (0, .ref h0), (2, .int x2)]) hx hb dX2_ableBits_38 hl (k := 3) rfl (by first | rfl | decide) (by decide) rfl (fun ls hl => ?_)
          refine lv_goto (tgt := 11) hx hb dX2_ableBits_41 (by decide) ?_
          exact ih _ _ _ h  _ _ _ hP hD hS (lv_sub hl [2, 3, 1, 0] rfl)
  unfold M_X2_ableBits at h
  refine lv_aload_n hx hb dX2_ableBits_0 rfl (lv_at hl 0 rfl) ?_
  refine lv_iload_n hx hb dX2_ableBits_1 rfl (lv_at hl 1 rfl) ?_
  obtain ⟨r2, q2, h⟩ := bnd1_inv h
  refine kVI (n := 1) (As := [.int p1]) (rest := []) CF hl hK hP hD hS hA (c_X2_hardOf l D cI h0 h1 h2 h3 h4 h5 h6 h7 v p1 r2 q2) gX2_ableBits_X2_hardOf rfl dX2_ableBits_2 (by decide +kernel) ⟨⟨rfl, rfl⟩, ⟨Nat.le_of_ble_eq_true rfl, Nat.le_of_ble_eq_true rfl⟩, Nat.zero_le _, Nat.zero_le _⟩ (JN.whole rfl) 0 rfl ⟨rfl, rfl⟩ rfl rfl (Nat.le_of_ble_eq_true rfl) (fun H locs hP hD hS => ?_)
  replace hP : va_P D vwCl (cS h0 h1 h2 h3 h4 h5 h6 h7 cI v) H := hP
  replace hD : va_D A (cS h0 h1 h2 h3 h4 h5 h6 h7 cI v) := hD
  refine lv_istore_n (lv' := [(2, .int r2), (0, .ref h0), (1, .int p1)]) hx hb dX2_ableBits_5 rfl hl (by decide) rfl (fun ls hl => ?_)
  refine lv_iconst (v := 0) hx hb dX2_ableBits_6 (by decide) ?_
  refine lv_istore_n (lv' := [(3, .int (0 : Int32)), (2, .int r2), (0, .ref h0), (1, .int p1)]) hx hb dX2_ableBits_7 rfl hl (by decide) rfl (fun ls hl => ?_)
  refine lv_iconst (v := 0) hx hb dX2_ableBits_8 (by decide) ?_
  refine lv_istore (lv' := [(4, .int (0 : Int32)), (3, .int (0 : Int32)), (2, .int r2), (0, .ref h0), (1, .int p1)]) hx hb dX2_ableBits_9 hl (by decide) rfl (fun ls hl => ?_)
  exact L11 FU _ _ _ h  _ _ _ hP hD hS (lv_sub hl [3, 2, 1, 0] rfl)
/-! X2_mendersNow -/
set_option maxHeartbeats 4000000 in
set_option maxRecDepth 100000 in
theorem c_X2_mendersNow (l : Launch) (D : va_G) (cI : ClassId) (h0 h1 h2 h3 h4 h5 h6 h7 : Nat) (v : SV) (p1 : Int32) (res : Int32) (h : M_X2_mendersNow v p1 = some res) : mI l yX2_mendersNow wsX2_mendersNow { frames := 3, cells := 0, slots := 0, locals := 68 } D cI [.ref h0, .int p1] (cS h0 h1 h2 h3 h4 h5 h6 h7 cI v) (cS h0 h1 h2 h3 h4 h5 h6 h7 cI v) res := by
  intro sz
  refine mStart (cc := cX2_mendersNow) (maxL := 4) (ret := (some .int)) (own := RX2) (by decide) rfl rfl (Nat.le_of_ble_eq_true rfl) (lv := [(0, .ref h0), (1, .int p1)]) rfl ?_
  intro p e s m args below meth c A ls Q H locs CF hr hlocks hK hP hD hS hA hAe hl hQ
  obtain ⟨hx, hb, hml, hown, hts⟩ := id CF
  have f33 := hts (.fieldLink RX2 33 "MendAnothersBreaking$State" "people" "I") (List.mem_of_getElem? (i := 1) rfl)
  have i2 : ∀ w ∈ wsX20, w ∈ wsX2_mendersNow := fun w h => List.mem_cons_of_mem _ (List.mem_append_right _ h)
  have L4 : ∀ (n : Nat) (x1 : Int32) (x2 : Int32) (x3 : Int32), fuel (fun _ _ => none) (B_X2_mendersNow_4 x1 v) n x2 x3 = some res → 
      ∀ (H : Heap) (locs : List Loc) (ls : Array Slot), va_P D vwCl (cS h0 h1 h2 h3 h4 h5 h6 h7 cI v) H → va_D A (cS h0 h1 h2 h3 h4 h5 h6 h7 cI v) → va_S A s.heap H locs → lv_has ls 4 [(0, .ref h0), (1, .int x1), (2, .int x2), (3, .int x3)] → W p l e { frames := 3, cells := 0, slots := 0, locals := 68 } s m args below meth c H locs 0 0 Q (F0 m 4 ls []) := by
    intro n
    induction n with
    | zero =>
      intro x1 x2 x3 h
      exact nomatch (show (none : Option (Int32)) = some res from h)
    | succ n ih =>
      intro x1 x2 x3 h  H locs ls hP hD hS hl
      replace h : B_X2_mendersNow_4 x1 v (fuel (fun _ _ => none) (B_X2_mendersNow_4 x1 v) n) x2 x3 = some res := h
      unfold B_X2_mendersNow_4 at h
      refine lv_iload_n hx hb dX2_mendersNow_4 rfl (lv_at hl 3 rfl) ?_
      refine lv_aload_n hx hb dX2_mendersNow_5 rfl (lv_at hl 0 rfl) ?_
      refine va_get (D := D) (ci := 2) (v := .int (sPe v)) (C := RX2) (T := TX2) (N := 10) hx hb hts i2 hown hK hP 0 rfl rfl 7 (by decide) f33 (fun _ h9 => h9) rfl dX2_mendersNow_6 ?_
      refine lv_icmp_ge (tgt := 30) hx hb dX2_mendersNow_9 (by decide) (fun c9 => ?_) (fun c9 => ?_)
      · replace h := fx_ite_t c9 h
        refine lv_iload_n hx hb dX2_mendersNow_30 rfl (lv_at hl 2 rfl) ?_
        obtain rfl := ret1 h
        exact rI hQ hx hb hr hlocks hAe hP hS rfl rfl dX2_mendersNow_31
      · replace h := fx_ite_f c9 h
        refine lv_aload_n hx hb dX2_mendersNow_12 rfl (lv_at hl 0 rfl) ?_
        refine lv_iload_n hx hb dX2_mendersNow_13 rfl (lv_at hl 3 rfl) ?_
        refine lv_iload_n hx hb dX2_mendersNow_14 rfl (lv_at hl 1 rfl) ?_
        obtain ⟨r15, q15, h⟩ := bnd1_inv h
        refine kVI (n := 2) (As := [.int x3, .int x1]) (rest := []) CF hl hK hP hD hS hA (c_X2_mayMend l D cI h0 h1 h2 h3 h4 h5 h6 h7 v x3 x1 r15 q15) gX2_mendersNow_X2_mayMend rfl dX2_mendersNow_15 (by decide +kernel) ⟨⟨rfl, rfl⟩, ⟨Nat.le_of_ble_eq_true rfl, Nat.le_of_ble_eq_true rfl⟩, Nat.zero_le _, Nat.zero_le _⟩ (JN.whole rfl) 0 rfl ⟨rfl, rfl⟩ rfl rfl (Nat.le_of_ble_eq_true rfl) (fun H locs hP hD hS => ?_)
        replace hP : va_P D vwCl (cS h0 h1 h2 h3 h4 h5 h6 h7 cI v) H := hP
        replace hD : va_D A (cS h0 h1 h2 h3 h4 h5 h6 h7 cI v) := hD
        refine lv_if_eq (tgt := 24) hx hb dX2_mendersNow_18 (by decide) (fun c18 => ?_) (fun c18 => ?_)
        · replace h := fx_ite_t c18 h
          refine lv_iinc (v := (x3 + 1)) (lv' := [(3, .int (x3 + 1)), (0, .ref h0), (1, .int x1), (2, .int x2)]) hx hb dX2_mendersNow_24 hl (k := 3) rfl (by first | rfl | decide) (by decide) rfl (fun ls hl => ?_)
          refine lv_goto (tgt := 4) hx hb dX2_mendersNow_27 (by decide) ?_
          exact ih _ _ _ h  _ _ _ hP hD hS (lv_sub hl [1, 2, 3, 0] rfl)
        · replace h := fx_ite_f c18 h
          refine lv_iinc (v := (x2 + 1)) (lv' := [(2, .int (x2 + 1)), (0, .ref h0), (1, .int x1), (3, .int x3)]) hx hb dX2_mendersNow_21 hl (k := 2) rfl (by first | rfl | decide) (by decide) rfl (fun ls hl => ?_)
          refine lv_iinc (v := (x3 + 1)) (lv' := [(3, .int (x3 + 1)), (2, .int (x2 + 1)), (0, .ref h0), (1, .int x1)]) hx hb dX2_mendersNow_24 hl (k := 3) rfl (by first | rfl | decide) (by decide) rfl (fun ls hl => ?_)
          refine lv_goto (tgt := 4) hx hb dX2_mendersNow_27 (by decide) ?_
          exact ih _ _ _ h  _ _ _ hP hD hS (lv_sub hl [2, 3, 1, 0] rfl)
  unfold M_X2_mendersNow at h
  refine lv_iconst (v := 0) hx hb dX2_mendersNow_0 (by decide) ?_
  refine lv_istore_n (lv' := [(2, .int (0 : Int32)), (0, .ref h0), (1, .int p1)]) hx hb dX2_mendersNow_1 rfl hl (by decide) rfl (fun ls hl => ?_)
  refine lv_iconst (v := 0) hx hb dX2_mendersNow_2 (by decide) ?_
  refine lv_istore_n (lv' := [(3, .int (0 : Int32)), (2, .int (0 : Int32)), (0, .ref h0), (1, .int p1)]) hx hb dX2_mendersNow_3 rfl hl (by decide) rfl (fun ls hl => ?_)
  exact L4 FU _ _ _ h  _ _ _ hP hD hS (lv_sub hl [2, 3, 1, 0] rfl)
/-! X2_breakLeastOf -/
set_option maxHeartbeats 4000000 in
set_option maxRecDepth 100000 in
theorem c_X2_breakLeastOf (l : Launch) (D : va_G) (cI : ClassId) (h0 h1 h2 h3 h4 h5 h6 h7 : Nat) (v : SV) (p1 : Int32) (p2 : Int32) (u_v : SV) (h : M_X2_breakLeastOf v p1 p2 = some u_v) : mV l yX2_breakLeastOf wsX2_breakLeastOf { frames := 1, cells := 0, slots := 0, locals := 21 } D cI [.ref h0, .int p1, .int p2] (cS h0 h1 h2 h3 h4 h5 h6 h7 cI v) (cS h0 h1 h2 h3 h4 h5 h6 h7 cI u_v) := by
  intro sz
  refine mStart (cc := cX2_breakLeastOf) (maxL := 4) (ret := none) (own := RX2) (by decide) rfl rfl (Nat.le_of_ble_eq_true rfl) (lv := [(0, .ref h0), (1, .int p1), (2, .int p2)]) rfl ?_
  intro p e s m args below meth c A ls Q H locs CF hr hlocks hK hP hD hS hA hAe hl hQ
  obtain ⟨hx, hb, hml, hown, hts⟩ := id CF
  have f24 := hts (.fieldLink RX2 24 "MendAnothersBreaking$State" "owners" "[I") (List.mem_of_getElem? (i := 2) rfl)
  have f30 := hts (.fieldLink RX2 30 "MendAnothersBreaking$State" "breakers" "[I") (List.mem_of_getElem? (i := 3) rfl)
  have f37 := hts (.fieldLink RX2 37 "MendAnothersBreaking$State" "things" "I") (List.mem_of_getElem? (i := 1) rfl)
  have i2 : ∀ w ∈ wsX20, w ∈ wsX2_breakLeastOf := fun w h => List.mem_cons_of_mem _ (List.mem_append_right _ h)
  have L2 : ∀ (n : Nat) (x1 : Int32) (x2 : Int32) (v : SV) (x3 : Int32), fuel (fun _ => none) (B_X2_breakLeastOf_2 x1 x2 v) n x3 = some u_v → 
      ∀ (H : Heap) (locs : List Loc) (ls : Array Slot), va_P D vwCl (cS h0 h1 h2 h3 h4 h5 h6 h7 cI v) H → va_D A (cS h0 h1 h2 h3 h4 h5 h6 h7 cI v) → va_S A s.heap H locs → lv_has ls 4 [(0, .ref h0), (1, .int x1), (2, .int x2), (3, .int x3)] → W p l e { frames := 1, cells := 0, slots := 0, locals := 21 } s m args below meth c H locs 0 0 Q (F0 m 2 ls []) := by
    intro n
    induction n with
    | zero =>
      intro x1 x2 v x3 h
      exact nomatch (show (none : Option (SV)) = some u_v from h)
    | succ n ih =>
      intro x1 x2 v x3 h  H locs ls hP hD hS hl
      replace h : B_X2_breakLeastOf_2 x1 x2 v (fuel (fun _ => none) (B_X2_breakLeastOf_2 x1 x2 v) n) x3 = some u_v := h
      unfold B_X2_breakLeastOf_2 at h
      refine lv_iload_n hx hb dX2_breakLeastOf_2 rfl (lv_at hl 3 rfl) ?_
      refine lv_aload_n hx hb dX2_breakLeastOf_3 rfl (lv_at hl 0 rfl) ?_
      refine va_get (D := D) (ci := 2) (v := .int (sTh v)) (C := RX2) (T := TX2) (N := 10) hx hb hts i2 hown hK hP 0 rfl rfl 8 (by decide) f37 (fun _ h9 => h9) rfl dX2_breakLeastOf_4 ?_
      refine lv_icmp_ge (tgt := 42) hx hb dX2_breakLeastOf_7 (by decide) (fun c7 => ?_) (fun c7 => ?_)
      · replace h := fx_ite_t c7 h
        obtain rfl := ret1 h
        exact rV hQ hx hb hr hlocks hAe hP hS dX2_breakLeastOf_42
      · replace h := fx_ite_f c7 h
        refine lv_aload_n hx hb dX2_breakLeastOf_10 rfl (lv_at hl 0 rfl) ?_
        refine va_get (D := D) (ci := 2) (v := .ref h5) (C := RX2) (T := TX2) (N := 10) hx hb hts i2 hown hK hP 0 rfl rfl 4 (by decide) f24 (fun _ h9 => h9) rfl dX2_breakLeastOf_11 ?_
        refine lv_iload_n hx hb dX2_breakLeastOf_14 rfl (lv_at hl 3 rfl) ?_
        obtain ⟨g15, h⟩ := chk_inv h
        refine va_iald (n := 9) (f := (sOw v)) hx hb hK hP 5 0 rfl rfl g15 dX2_breakLeastOf_15 ?_
        refine lv_iload_n hx hb dX2_breakLeastOf_16 rfl (lv_at hl 1 rfl) ?_
        refine lv_icmp_ne (tgt := 36) hx hb dX2_breakLeastOf_17 (by decide) (fun c17 => ?_) (fun c17 => ?_)
        · replace h := fx_ite_f c17 h
          refine lv_iinc (v := (x3 + 1)) (lv' := [(3, .int (x3 + 1)), (0, .ref h0), (1, .int x1), (2, .int x2)]) hx hb dX2_breakLeastOf_36 hl (k := 3) rfl (by first | rfl | decide) (by decide) rfl (fun ls hl => ?_)
          refine lv_goto (tgt := 2) hx hb dX2_breakLeastOf_39 (by decide) ?_
          exact ih _ _ _ _ h  _ _ _ hP hD hS (lv_sub hl [1, 2, 3, 0] rfl)
        · replace h := fx_ite_t c17 h
          refine lv_aload_n hx hb dX2_breakLeastOf_20 rfl (lv_at hl 0 rfl) ?_
          refine lv_iload_n hx hb dX2_breakLeastOf_21 rfl (lv_at hl 3 rfl) ?_
          obtain ⟨r22, q22, h⟩ := bnd1_inv h
          refine kVI (n := 1) (As := [.int x3]) (rest := []) CF hl hK hP hD hS hA (c_X2_isWhole l D cI h0 h1 h2 h3 h4 h5 h6 h7 v x3 r22 q22) gX2_breakLeastOf_X2_isWhole rfl dX2_breakLeastOf_22 (by decide +kernel) ⟨⟨rfl, rfl⟩, ⟨Nat.le_of_ble_eq_true rfl, Nat.le_of_ble_eq_true rfl⟩, Nat.zero_le _, Nat.zero_le _⟩ (JN.whole rfl) 0 rfl ⟨rfl, rfl⟩ rfl rfl (Nat.le_of_ble_eq_true rfl) (fun H locs hP hD hS => ?_)
          replace hP : va_P D vwCl (cS h0 h1 h2 h3 h4 h5 h6 h7 cI v) H := hP
          replace hD : va_D A (cS h0 h1 h2 h3 h4 h5 h6 h7 cI v) := hD
          refine lv_if_eq (tgt := 36) hx hb dX2_breakLeastOf_25 (by decide) (fun c25 => ?_) (fun c25 => ?_)
          · replace h := fx_ite_t c25 h
            refine lv_iinc (v := (x3 + 1)) (lv' := [(3, .int (x3 + 1)), (0, .ref h0), (1, .int x1), (2, .int x2)]) hx hb dX2_breakLeastOf_36 hl (k := 3) rfl (by first | rfl | decide) (by decide) rfl (fun ls hl => ?_)
            refine lv_goto (tgt := 2) hx hb dX2_breakLeastOf_39 (by decide) ?_
            exact ih _ _ _ _ h  _ _ _ hP hD hS (lv_sub hl [1, 2, 3, 0] rfl)
          · replace h := fx_ite_f c25 h
            refine lv_aload_n hx hb dX2_breakLeastOf_28 rfl (lv_at hl 0 rfl) ?_
            refine va_get (D := D) (ci := 2) (v := .ref h7) (C := RX2) (T := TX2) (N := 10) hx hb hts i2 hown hK hP 0 rfl rfl 6 (by decide) f30 (fun _ h9 => h9) rfl dX2_breakLeastOf_29 ?_
            refine lv_iload_n hx hb dX2_breakLeastOf_32 rfl (lv_at hl 3 rfl) ?_
            refine lv_iload_n hx hb dX2_breakLeastOf_33 rfl (lv_at hl 2 rfl) ?_
            obtain ⟨g34, h⟩ := chk_inv h
            refine va_iast (n := 9) (f := (sBr v)) hx hb hK hP hD hS 7 0 rfl rfl g34 dX2_breakLeastOf_34 (fun H locs hP hD hS => ?_)
            replace hP : va_P D vwCl (cS h0 h1 h2 h3 h4 h5 h6 h7 cI (sUBr v (upd (sBr v) (Int32.toNatClampNeg x3) x2))) H := hP
            replace hD : va_D A (cS h0 h1 h2 h3 h4 h5 h6 h7 cI (sUBr v (upd (sBr v) (Int32.toNatClampNeg x3) x2))) := hD
            obtain rfl := ret1 h
            exact rV hQ hx hb hr hlocks hAe hP hS dX2_breakLeastOf_35
  unfold M_X2_breakLeastOf at h
  refine lv_iconst (v := 0) hx hb dX2_breakLeastOf_0 (by decide) ?_
  refine lv_istore_n (lv' := [(3, .int (0 : Int32)), (0, .ref h0), (1, .int p1), (2, .int p2)]) hx hb dX2_breakLeastOf_1 rfl hl (by decide) rfl (fun ls hl => ?_)
  exact L2 FU _ _ _ _ h  _ _ _ hP hD hS (lv_sub hl [1, 2, 3, 0] rfl)
/-! X2_breakerOfLeast -/
set_option maxHeartbeats 4000000 in
set_option maxRecDepth 100000 in
theorem c_X2_breakerOfLeast (l : Launch) (D : va_G) (cI : ClassId) (h0 h1 h2 h3 h4 h5 h6 h7 : Nat) (v : SV) (p1 : Int32) (res : Int32) (h : M_X2_breakerOfLeast v p1 = some res) : mI l yX2_breakerOfLeast wsX2_breakerOfLeast { frames := 1, cells := 0, slots := 0, locals := 21 } D cI [.ref h0, .int p1] (cS h0 h1 h2 h3 h4 h5 h6 h7 cI v) (cS h0 h1 h2 h3 h4 h5 h6 h7 cI v) res := by
  intro sz
  refine mStart (cc := cX2_breakerOfLeast) (maxL := 3) (ret := (some .int)) (own := RX2) (by decide) rfl rfl (Nat.le_of_ble_eq_true rfl) (lv := [(0, .ref h0), (1, .int p1)]) rfl ?_
  intro p e s m args below meth c A ls Q H locs CF hr hlocks hK hP hD hS hA hAe hl hQ
  obtain ⟨hx, hb, hml, hown, hts⟩ := id CF
  have f24 := hts (.fieldLink RX2 24 "MendAnothersBreaking$State" "owners" "[I") (List.mem_of_getElem? (i := 2) rfl)
  have f30 := hts (.fieldLink RX2 30 "MendAnothersBreaking$State" "breakers" "[I") (List.mem_of_getElem? (i := 3) rfl)
  have f37 := hts (.fieldLink RX2 37 "MendAnothersBreaking$State" "things" "I") (List.mem_of_getElem? (i := 1) rfl)
  have i2 : ∀ w ∈ wsX20, w ∈ wsX2_breakerOfLeast := fun w h => List.mem_cons_of_mem _ (List.mem_append_right _ h)
  have L2 : ∀ (n : Nat) (x1 : Int32) (x2 : Int32), fuel (fun _ => none) (B_X2_breakerOfLeast_2 x1 v) n x2 = some res → 
      ∀ (H : Heap) (locs : List Loc) (ls : Array Slot), va_P D vwCl (cS h0 h1 h2 h3 h4 h5 h6 h7 cI v) H → va_D A (cS h0 h1 h2 h3 h4 h5 h6 h7 cI v) → va_S A s.heap H locs → lv_has ls 3 [(0, .ref h0), (1, .int x1), (2, .int x2)] → W p l e { frames := 1, cells := 0, slots := 0, locals := 21 } s m args below meth c H locs 0 0 Q (F0 m 2 ls []) := by
    intro n
    induction n with
    | zero =>
      intro x1 x2 h
      exact nomatch (show (none : Option (Int32)) = some res from h)
    | succ n ih =>
      intro x1 x2 h  H locs ls hP hD hS hl
      replace h : B_X2_breakerOfLeast_2 x1 v (fuel (fun _ => none) (B_X2_breakerOfLeast_2 x1 v) n) x2 = some res := h
      unfold B_X2_breakerOfLeast_2 at h
      refine lv_iload_n hx hb dX2_breakerOfLeast_2 rfl (lv_at hl 2 rfl) ?_
      refine lv_aload_n hx hb dX2_breakerOfLeast_3 rfl (lv_at hl 0 rfl) ?_
      refine va_get (D := D) (ci := 2) (v := .int (sTh v)) (C := RX2) (T := TX2) (N := 10) hx hb hts i2 hown hK hP 0 rfl rfl 8 (by decide) f37 (fun _ h9 => h9) rfl dX2_breakerOfLeast_4 ?_
      refine lv_icmp_ge (tgt := 41) hx hb dX2_breakerOfLeast_7 (by decide) (fun c7 => ?_) (fun c7 => ?_)
      · replace h := fx_ite_t c7 h
        refine lv_bipush (v := (-9)) hx hb dX2_breakerOfLeast_41 (by decide) ?_
        obtain rfl := ret1 h
        exact rI hQ hx hb hr hlocks hAe hP hS rfl rfl dX2_breakerOfLeast_43
      · replace h := fx_ite_f c7 h
        refine lv_aload_n hx hb dX2_breakerOfLeast_10 rfl (lv_at hl 0 rfl) ?_
        refine va_get (D := D) (ci := 2) (v := .ref h5) (C := RX2) (T := TX2) (N := 10) hx hb hts i2 hown hK hP 0 rfl rfl 4 (by decide) f24 (fun _ h9 => h9) rfl dX2_breakerOfLeast_11 ?_
        refine lv_iload_n hx hb dX2_breakerOfLeast_14 rfl (lv_at hl 2 rfl) ?_
        obtain ⟨g15, h⟩ := chk_inv h
        refine va_iald (n := 9) (f := (sOw v)) hx hb hK hP 5 0 rfl rfl g15 dX2_breakerOfLeast_15 ?_
        refine lv_iload_n hx hb dX2_breakerOfLeast_16 rfl (lv_at hl 1 rfl) ?_
        refine lv_icmp_ne (tgt := 35) hx hb dX2_breakerOfLeast_17 (by decide) (fun c17 => ?_) (fun c17 => ?_)
        · replace h := fx_ite_f c17 h
          refine lv_iinc (v := (x2 + 1)) (lv' := [(2, .int (x2 + 1)), (0, .ref h0), (1, .int x1)]) hx hb dX2_breakerOfLeast_35 hl (k := 2) rfl (by first | rfl | decide) (by decide) rfl (fun ls hl => ?_)
          refine lv_goto (tgt := 2) hx hb dX2_breakerOfLeast_38 (by decide) ?_
          exact ih _ _ h  _ _ _ hP hD hS (lv_sub hl [1, 2, 0] rfl)
        · replace h := fx_ite_t c17 h
          refine lv_aload_n hx hb dX2_breakerOfLeast_20 rfl (lv_at hl 0 rfl) ?_
          refine lv_iload_n hx hb dX2_breakerOfLeast_21 rfl (lv_at hl 2 rfl) ?_
          obtain ⟨r22, q22, h⟩ := bnd1_inv h
          refine kVI (n := 1) (As := [.int x2]) (rest := []) CF hl hK hP hD hS hA (c_X2_isByAnother l D cI h0 h1 h2 h3 h4 h5 h6 h7 v x2 r22 q22) gX2_breakerOfLeast_X2_isByAnother rfl dX2_breakerOfLeast_22 (by decide +kernel) ⟨⟨rfl, rfl⟩, ⟨Nat.le_of_ble_eq_true rfl, Nat.le_of_ble_eq_true rfl⟩, Nat.zero_le _, Nat.zero_le _⟩ (JN.whole rfl) 0 rfl ⟨rfl, rfl⟩ rfl rfl (Nat.le_of_ble_eq_true rfl) (fun H locs hP hD hS => ?_)
          replace hP : va_P D vwCl (cS h0 h1 h2 h3 h4 h5 h6 h7 cI v) H := hP
          replace hD : va_D A (cS h0 h1 h2 h3 h4 h5 h6 h7 cI v) := hD
          refine lv_if_eq (tgt := 35) hx hb dX2_breakerOfLeast_25 (by decide) (fun c25 => ?_) (fun c25 => ?_)
          · replace h := fx_ite_t c25 h
            refine lv_iinc (v := (x2 + 1)) (lv' := [(2, .int (x2 + 1)), (0, .ref h0), (1, .int x1)]) hx hb dX2_breakerOfLeast_35 hl (k := 2) rfl (by first | rfl | decide) (by decide) rfl (fun ls hl => ?_)
            refine lv_goto (tgt := 2) hx hb dX2_breakerOfLeast_38 (by decide) ?_
            exact ih _ _ h  _ _ _ hP hD hS (lv_sub hl [1, 2, 0] rfl)
          · replace h := fx_ite_f c25 h
            refine lv_aload_n hx hb dX2_breakerOfLeast_28 rfl (lv_at hl 0 rfl) ?_
            refine va_get (D := D) (ci := 2) (v := .ref h7) (C := RX2) (T := TX2) (N := 10) hx hb hts i2 hown hK hP 0 rfl rfl 6 (by decide) f30 (fun _ h9 => h9) rfl dX2_breakerOfLeast_29 ?_
            refine lv_iload_n hx hb dX2_breakerOfLeast_32 rfl (lv_at hl 2 rfl) ?_
            obtain ⟨g33, h⟩ := chk_inv h
            refine va_iald (n := 9) (f := (sBr v)) hx hb hK hP 7 0 rfl rfl g33 dX2_breakerOfLeast_33 ?_
            obtain rfl := ret1 h
            exact rI hQ hx hb hr hlocks hAe hP hS rfl rfl dX2_breakerOfLeast_34
  unfold M_X2_breakerOfLeast at h
  refine lv_iconst (v := 0) hx hb dX2_breakerOfLeast_0 (by decide) ?_
  refine lv_istore_n (lv' := [(2, .int (0 : Int32)), (0, .ref h0), (1, .int p1)]) hx hb dX2_breakerOfLeast_1 rfl hl (by decide) rfl (fun ls hl => ?_)
  exact L2 FU _ _ h  _ _ _ hP hD hS (lv_sub hl [1, 2, 0] rfl)
