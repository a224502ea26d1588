/-! X4_readsKind -/
set_option maxHeartbeats 4000000 in
set_option maxRecDepth 100000 in
theorem c_X4_readsKind (l : Launch) (D : va_G) (cI : ClassId) (a : Nat → Nat) (ss : (Nat → Int32)) (mm : (Nat → Int32)) (im : (Nat → Int32)) (wa : (Nat → Int32)) (hi : Int32) (le : (Nat → Int32)) (ro : (Nat → Int32)) (re : (Nat → Int32)) (lm : Int32) (rm : Int32) (pl : Int32) (nu : (Nat → Int32)) (gi : (Nat → Int32)) (bg : (Nat → Int32)) (bm : Int32) (sd : Int32)  (res : Int32) (u_pl : Int32) (u_nu : (Nat → Int32)) (h : M_X4_readsKind le lm pl nu = some (res, u_pl, u_nu)) : mI l yX4_readsKind wsX4_readsKind { frames := 1, cells := 0, slots := 0, locals := 20 } D cI [.ref (a 0)] (cM a cI ss mm im wa hi le ro re lm rm pl nu gi bg bm sd) (cM a cI ss mm im wa hi le ro re lm rm u_pl u_nu gi bg bm sd) res := by
  intro sz
  refine mStart (cc := cX4_readsKind) (maxL := 1) (ret := (some .boolean)) (own := RX4) (by decide) rfl rfl (Nat.le_of_ble_eq_true rfl) (lv := [(0, .ref (a 0))]) rfl ?_
  intro p e s m args below meth c A ls Q H locs CF hr hlocks hK hP hD hS hA hAe hl hQ
  obtain ⟨hx, hb, hml, hown, hts⟩ := id CF
  have f31 := hts (.fieldLink RX4 31 "MendAnothersBreakingModel" "numbers" "[I") (List.mem_of_getElem? (i := 1) rfl)
  have f105 := hts (.fieldLink RX4 105 "MendAnothersBreakingModel" "place" "I") (List.mem_of_getElem? (i := 2) rfl)
  have i4 : ∀ w ∈ wsX40, w ∈ wsX4_readsKind := fun w h => List.mem_cons_of_mem _ (List.mem_append_right _ h)
  unfold M_X4_readsKind at h
  refine lv_aload_n hx hb dX4_readsKind_0 rfl (lv_at hl 0 rfl) ?_
  refine va_get (D := D) (ci := 4) (v := .ref (a 8)) (C := RX4) (T := TX4) (N := 16) hx hb hts i4 hown hK hP 0 rfl rfl 11 (by decide) f31 (fun _ h9 => h9) rfl dX4_readsKind_1 ?_
  refine lv_iconst (v := 0) hx hb dX4_readsKind_4 (by decide) ?_
  refine lv_aload_n hx hb dX4_readsKind_5 rfl (lv_at hl 0 rfl) ?_
  obtain ⟨r6, q6, h⟩ := bnd1_inv h
  refine kVI (n := 0) (As := []) (rest := [.int (0 : Int32), .ref (a 8)]) CF hl hK hP hD hS hA (c_X4_here l D cI a ss mm im wa hi le ro re lm rm pl nu gi bg bm sd  r6 q6) gX4_readsKind_X4_here rfl dX4_readsKind_6 (by decide +kernel) ⟨⟨rfl, rfl⟩, ⟨Nat.le_of_ble_eq_true rfl, Nat.le_of_ble_eq_true rfl⟩, Nat.zero_le _, Nat.zero_le _⟩ (JN.whole rfl) 0 rfl ⟨rfl, rfl⟩ rfl rfl (Nat.le_of_ble_eq_true rfl) (fun H locs hP hD hS => ?_)
  replace hP : va_P D vwCl (cM a cI ss mm im wa hi le ro re lm rm pl nu gi bg bm sd) H := hP
  replace hD : va_D A (cM a cI ss mm im wa hi le ro re lm rm pl nu gi bg bm sd) := hD
  obtain ⟨r9, q9, h⟩ := bnd1_inv h
  refine kSI (n := 1) (As := [.int r6]) (rest := [.int (0 : Int32), .ref (a 8)]) CF hl hK hP hD hS hA (c_X4_kindBy l D cI   r6 r9 q9) gX4_readsKind_X4_kindBy rfl dX4_readsKind_9 (by decide +kernel) ⟨⟨rfl, rfl⟩, ⟨Nat.le_of_ble_eq_true rfl, Nat.le_of_ble_eq_true rfl⟩, Nat.zero_le _, Nat.zero_le _⟩ (JN.ro [] rfl rfl) rfl rfl (Nat.le_of_ble_eq_true rfl) (fun H locs hP hD hS => ?_)
  refine ast (n := 3) (f := nu) (k := 0) hx hb hK hP hD hS 8 0 rfl rfl (fx_lit rfl) rfl dX4_readsKind_12 (fun H locs hP hD hS => ?_)
  replace hP : va_P D vwCl (cM a cI ss mm im wa hi le ro re lm rm pl (upd nu 0 r9) gi bg bm sd) H := hP
  replace hD : va_D A (cM a cI ss mm im wa hi le ro re lm rm pl (upd nu 0 r9) gi bg bm sd) := hD
  refine lv_aload_n hx hb dX4_readsKind_13 rfl (lv_at hl 0 rfl) ?_
  refine lv_dup hx hb dX4_readsKind_14 rfl ?_
  refine va_get (D := D) (ci := 4) (v := .int pl) (C := RX4) (T := TX4) (N := 16) hx hb hts i4 hown hK hP 0 rfl rfl 10 (by decide) f105 (fun _ h9 => h9) rfl dX4_readsKind_15 ?_
  refine lv_aload_n hx hb dX4_readsKind_18 rfl (lv_at hl 0 rfl) ?_
  refine va_get (D := D) (ci := 4) (v := .ref (a 8)) (C := RX4) (T := TX4) (N := 16) hx hb hts i4 hown hK hP 0 rfl rfl 11 (by decide) f31 (fun _ h9 => h9) rfl dX4_readsKind_19 ?_
  refine lv_iconst (v := 0) hx hb dX4_readsKind_22 (by decide) ?_
  refine ald (n := 3) (f := (upd nu 0 r9)) (k := 0) hx hb hK hP 8 0 rfl rfl (fx_lit rfl) rfl dX4_readsKind_23 ?_
  refine lv_if_ge (tgt := 31) hx hb dX4_readsKind_24 (by decide) (fun c24 => ?_) (fun c24 => ?_)
  · replace h := fx_ite_t c24 h
    refine lv_iconst (v := 1) hx hb dX4_readsKind_31 (by decide) ?_
    refine lv_iadd hx hb dX4_readsKind_32 ?_
    refine va_put (D := D) (ci := 4) (v := .int (pl + (1 : Int32))) (ty := .int) (C := RX4) (T := TX4) (N := 16) hx hb hts i4 tyX4 tyX4_ok nmX4 hown hK hP hD hS 0 rfl rfl 10 (by decide) f105 (fun _ h9 => h9) rfl (by decide +kernel) rfl rfl (Nat.le_of_ble_eq_true rfl) dX4_readsKind_33 (fun H locs hP hD hS => ?_)
    replace hP : va_P D vwCl (cM a cI ss mm im wa hi le ro re lm rm (pl + (1 : Int32)) (upd nu 0 r9) gi bg bm sd) H := hP
    replace hD : va_D A (cM a cI ss mm im wa hi le ro re lm rm (pl + (1 : Int32)) (upd nu 0 r9) gi bg bm sd) := hD
    refine lv_aload_n hx hb dX4_readsKind_36 rfl (lv_at hl 0 rfl) ?_
    refine va_get (D := D) (ci := 4) (v := .ref (a 8)) (C := RX4) (T := TX4) (N := 16) hx hb hts i4 hown hK hP 0 rfl rfl 11 (by decide) f31 (fun _ h9 => h9) rfl dX4_readsKind_37 ?_
    refine lv_iconst (v := 0) hx hb dX4_readsKind_40 (by decide) ?_
    refine ald (n := 3) (f := (upd nu 0 r9)) (k := 0) hx hb hK hP 8 0 rfl rfl (fx_lit rfl) rfl dX4_readsKind_41 ?_
    refine lv_if_lt (tgt := 49) hx hb dX4_readsKind_42 (by decide) (fun c42 => ?_) (fun c42 => ?_)
    · replace h := fx_ite_t c42 h
      refine lv_iconst (v := 0) hx hb dX4_readsKind_49 (by decide) ?_
      obtain ⟨rfl, rfl, rfl⟩ := rtv3 h
      exact rI hQ hx hb hr hlocks hAe hP hS rfl rfl dX4_readsKind_50
    · replace h := fx_ite_f c42 h
      refine lv_iconst (v := 1) hx hb dX4_readsKind_45 (by decide) ?_
      refine lv_goto (tgt := 50) hx hb dX4_readsKind_46 (by decide) ?_
      obtain ⟨rfl, rfl, rfl⟩ := rtv3 h
      exact rI hQ hx hb hr hlocks hAe hP hS rfl rfl dX4_readsKind_50
  · replace h := fx_ite_f c24 h
    refine lv_iconst (v := 0) hx hb dX4_readsKind_27 (by decide) ?_
    refine lv_goto (tgt := 32) hx hb dX4_readsKind_28 (by decide) ?_
    refine lv_iadd hx hb dX4_readsKind_32 ?_
    refine va_put (D := D) (ci := 4) (v := .int (pl + (0 : Int32))) (ty := .int) (C := RX4) (T := TX4) (N := 16) hx hb hts i4 tyX4 tyX4_ok nmX4 hown hK hP hD hS 0 rfl rfl 10 (by decide) f105 (fun _ h9 => h9) rfl (by decide +kernel) rfl rfl (Nat.le_of_ble_eq_true rfl) dX4_readsKind_33 (fun H locs hP hD hS => ?_)
    replace hP : va_P D vwCl (cM a cI ss mm im wa hi le ro re lm rm (pl + (0 : Int32)) (upd nu 0 r9) gi bg bm sd) H := hP
    replace hD : va_D A (cM a cI ss mm im wa hi le ro re lm rm (pl + (0 : Int32)) (upd nu 0 r9) gi bg bm sd) := hD
    refine lv_aload_n hx hb dX4_readsKind_36 rfl (lv_at hl 0 rfl) ?_
    refine va_get (D := D) (ci := 4) (v := .ref (a 8)) (C := RX4) (T := TX4) (N := 16) hx hb hts i4 hown hK hP 0 rfl rfl 11 (by decide) f31 (fun _ h9 => h9) rfl dX4_readsKind_37 ?_
    refine lv_iconst (v := 0) hx hb dX4_readsKind_40 (by decide) ?_
    refine ald (n := 3) (f := (upd nu 0 r9)) (k := 0) hx hb hK hP 8 0 rfl rfl (fx_lit rfl) rfl dX4_readsKind_41 ?_
    refine lv_if_lt (tgt := 49) hx hb dX4_readsKind_42 (by decide) (fun c42 => ?_) (fun c42 => ?_)
    · replace h := fx_ite_t c42 h
      refine lv_iconst (v := 0) hx hb dX4_readsKind_49 (by decide) ?_
      obtain ⟨rfl, rfl, rfl⟩ := rtv3 h
      exact rI hQ hx hb hr hlocks hAe hP hS rfl rfl dX4_readsKind_50
    · replace h := fx_ite_f c42 h
      refine lv_iconst (v := 1) hx hb dX4_readsKind_45 (by decide) ?_
      refine lv_goto (tgt := 50) hx hb dX4_readsKind_46 (by decide) ?_
      obtain ⟨rfl, rfl, rfl⟩ := rtv3 h
      exact rI hQ hx hb hr hlocks hAe hP hS rfl rfl dX4_readsKind_50
/-! X4_readsStatement -/
set_option maxHeartbeats 4000000 in
set_option maxRecDepth 100000 in
theorem c_X4_readsStatement (l : Launch) (D : va_G) (cI : ClassId) (a : Nat → Nat) (ss : (Nat → Int32)) (mm : (Nat → Int32)) (im : (Nat → Int32)) (wa : (Nat → Int32)) (hi : Int32) (le : (Nat → Int32)) (ro : (Nat → Int32)) (re : (Nat → Int32)) (lm : Int32) (rm : Int32) (pl : Int32) (nu : (Nat → Int32)) (gi : (Nat → Int32)) (bg : (Nat → Int32)) (bm : Int32) (sd : Int32)  (res : Int32) (u_pl : Int32) (u_nu : (Nat → Int32)) (h : M_X4_readsStatement le lm pl nu = some (res, u_pl, u_nu)) : mI l yX4_readsStatement wsX4_readsStatement { frames := 2, cells := 0, slots := 0, locals := 45 } D cI [.ref (a 0)] (cM a cI ss mm im wa hi le ro re lm rm pl nu gi bg bm sd) (cM a cI ss mm im wa hi le ro re lm rm u_pl u_nu gi bg bm sd) res := by
  intro sz
  refine mStart (cc := cX4_readsStatement) (maxL := 3) (ret := (some .boolean)) (own := RX4) (by decide) rfl rfl (Nat.le_of_ble_eq_true rfl) (lv := [(0, .ref (a 0))]) rfl ?_
  intro p e s m args below meth c A ls Q H locs CF hr hlocks hK hP hD hS hA hAe hl hQ
  obtain ⟨hx, hb, hml, hown, hts⟩ := id CF
  have f105 := hts (.fieldLink RX4 105 "MendAnothersBreakingModel" "place" "I") (List.mem_of_getElem? (i := 1) rfl)
  have i4 : ∀ w ∈ wsX40, w ∈ wsX4_readsStatement := fun w h => List.mem_cons_of_mem _ (List.mem_append_right _ h)
  unfold M_X4_readsStatement at h
  refine lv_aload_n hx hb dX4_readsStatement_0 rfl (lv_at hl 0 rfl) ?_
  obtain ⟨r1, q1, h⟩ := bnd1_inv h
  refine kVI (n := 0) (As := []) (rest := []) CF hl hK hP hD hS hA (c_X4_here l D cI a ss mm im wa hi le ro re lm rm pl nu gi bg bm sd  r1 q1) gX4_readsStatement_X4_here rfl dX4_readsStatement_1 (by decide +kernel) ⟨⟨rfl, rfl⟩, ⟨Nat.le_of_ble_eq_true rfl, Nat.le_of_ble_eq_true rfl⟩, Nat.zero_le _, Nat.zero_le _⟩ (JN.whole rfl) 0 rfl ⟨rfl, rfl⟩ rfl rfl (Nat.le_of_ble_eq_true rfl) (fun H locs hP hD hS => ?_)
  replace hP : va_P D vwCl (cM a cI ss mm im wa hi le ro re lm rm pl nu gi bg bm sd) H := hP
  replace hD : va_D A (cM a cI ss mm im wa hi le ro re lm rm pl nu gi bg bm sd) := hD
  refine lv_istore_n (lv' := [(1, .int r1), (0, .ref (a 0))]) hx hb dX4_readsStatement_4 rfl hl (by decide) rfl (fun ls hl => ?_)
  refine lv_aload_n hx hb dX4_readsStatement_5 rfl (lv_at hl 1 rfl) ?_
  refine lv_dup hx hb dX4_readsStatement_6 rfl ?_
  refine va_get (D := D) (ci := 4) (v := .int pl) (C := RX4) (T := TX4) (N := 16) hx hb hts i4 hown hK hP 0 rfl rfl 10 (by decide) f105 (fun _ h9 => h9) rfl dX4_readsStatement_7 ?_
  refine lv_iconst (v := 1) hx hb dX4_readsStatement_10 (by decide) ?_
  refine lv_iadd hx hb dX4_readsStatement_11 ?_
  refine va_put (D := D) (ci := 4) (v := .int (pl + (1 : Int32))) (ty := .int) (C := RX4) (T := TX4) (N := 16) hx hb hts i4 tyX4 tyX4_ok nmX4 hown hK hP hD hS 0 rfl rfl 10 (by decide) f105 (fun _ h9 => h9) rfl (by decide +kernel) rfl rfl (Nat.le_of_ble_eq_true rfl) dX4_readsStatement_12 (fun H locs hP hD hS => ?_)
  replace hP : va_P D vwCl (cM a cI ss mm im wa hi le ro re lm rm (pl + (1 : Int32)) nu gi bg bm sd) H := hP
  replace hD : va_D A (cM a cI ss mm im wa hi le ro re lm rm (pl + (1 : Int32)) nu gi bg bm sd) := hD
  refine lv_iload_n hx hb dX4_readsStatement_15 rfl (lv_at hl 0 rfl) ?_
  by_cases s16_98 : r1 = 98
  · replace h := fx_ite_t s16_98 h
    refine lv_tableIn (tgt := 164) hx hb dX4_readsStatement_16 (by rw [s16_98]; decide) (by rw [s16_98]; decide) (off := 148) (by rw [s16_98]; rfl) (by decide) ?_
    refine lv_aload_n hx hb dX4_readsStatement_164 rfl (lv_at hl 1 rfl) ?_
    refine lv_iconst (v := 0) hx hb dX4_readsStatement_165 (by decide) ?_
    refine lv_iconst (v := 1) hx hb dX4_readsStatement_166 (by decide) ?_
    obtain ⟨r167, u167_pl, u167_nu, q167, h⟩ := bnd3_inv h
    refine kVI (n := 2) (As := [.int (0 : Int32), .int (1 : Int32)]) (rest := []) CF hl hK hP hD hS hA (c_X4_readsNumber l D cI a ss mm im wa hi le ro re lm rm (pl + (1 : Int32)) nu gi bg bm sd (0 : Int32) (1 : Int32) r167 u167_pl u167_nu q167) gX4_readsStatement_X4_readsNumber rfl dX4_readsStatement_167 (by decide +kernel) ⟨⟨rfl, rfl⟩, ⟨Nat.le_of_ble_eq_true rfl, Nat.le_of_ble_eq_true rfl⟩, Nat.zero_le _, Nat.zero_le _⟩ (JN.whole (w1 := (cM a cI ss mm im wa hi le ro re lm rm u167_pl u167_nu gi bg bm sd)) rfl) 0 rfl ⟨rfl, rfl⟩ rfl rfl (Nat.le_of_ble_eq_true rfl) (fun H locs hP hD hS => ?_)
    replace hP : va_P D vwCl (cM a cI ss mm im wa hi le ro re lm rm u167_pl u167_nu gi bg bm sd) H := hP
    replace hD : va_D A (cM a cI ss mm im wa hi le ro re lm rm u167_pl u167_nu gi bg bm sd) := hD
    refine lv_if_eq (tgt := 186) hx hb dX4_readsStatement_170 (by decide) (fun c170 => ?_) (fun c170 => ?_)
    · replace h := fx_ite_t c170 h
      refine lv_iconst (v := 0) hx hb dX4_readsStatement_186 (by decide) ?_
      refine lv_istore_n (lv' := [(2, .int (0 : Int32)), (1, .int r1), (0, .ref (a 0))]) hx hb dX4_readsStatement_187 rfl hl (by decide) rfl (fun ls hl => ?_)
      refine lv_goto (tgt := 213) hx hb dX4_readsStatement_188 (by decide) ?_
      refine lv_iload_n hx hb dX4_readsStatement_213 rfl (lv_at hl 0 rfl) ?_
      refine lv_if_eq (tgt := 226) hx hb dX4_readsStatement_214 (by decide) (fun _ => ?_) (fun c9 => absurd c9 (by decide))
      refine lv_iconst (v := 0) hx hb dX4_readsStatement_226 (by decide) ?_
      obtain ⟨rfl, rfl, rfl⟩ := rtv3 h
      exact rI hQ hx hb hr hlocks hAe hP hS rfl rfl dX4_readsStatement_227
    · replace h := fx_ite_f c170 h
      refine lv_aload_n hx hb dX4_readsStatement_173 rfl (lv_at hl 1 rfl) ?_
      refine lv_iconst (v := 1) hx hb dX4_readsStatement_174 (by decide) ?_
      refine lv_iconst (v := 1) hx hb dX4_readsStatement_175 (by decide) ?_
      obtain ⟨r176, u176_pl, u176_nu, q176, h⟩ := bnd3_inv h
      refine kVI (n := 2) (As := [.int (1 : Int32), .int (1 : Int32)]) (rest := []) CF hl hK hP hD hS hA (c_X4_readsNumber l D cI a ss mm im wa hi le ro re lm rm u167_pl u167_nu gi bg bm sd (1 : Int32) (1 : Int32) r176 u176_pl u176_nu q176) gX4_readsStatement_X4_readsNumber rfl dX4_readsStatement_176 (by decide +kernel) ⟨⟨rfl, rfl⟩, ⟨Nat.le_of_ble_eq_true rfl, Nat.le_of_ble_eq_true rfl⟩, Nat.zero_le _, Nat.zero_le _⟩ (JN.whole (w1 := (cM a cI ss mm im wa hi le ro re lm rm u176_pl u176_nu gi bg bm sd)) rfl) 0 rfl ⟨rfl, rfl⟩ rfl rfl (Nat.le_of_ble_eq_true rfl) (fun H locs hP hD hS => ?_)
      replace hP : va_P D vwCl (cM a cI ss mm im wa hi le ro re lm rm u176_pl u176_nu gi bg bm sd) H := hP
      replace hD : va_D A (cM a cI ss mm im wa hi le ro re lm rm u176_pl u176_nu gi bg bm sd) := hD
      refine lv_if_eq (tgt := 186) hx hb dX4_readsStatement_179 (by decide) (fun c179 => ?_) (fun c179 => ?_)
      · replace h := fx_ite_t c179 h
        refine lv_iconst (v := 0) hx hb dX4_readsStatement_186 (by decide) ?_
        refine lv_istore_n (lv' := [(2, .int (0 : Int32)), (1, .int r1), (0, .ref (a 0))]) hx hb dX4_readsStatement_187 rfl hl (by decide) rfl (fun ls hl => ?_)
        refine lv_goto (tgt := 213) hx hb dX4_readsStatement_188 (by decide) ?_
        refine lv_iload_n hx hb dX4_readsStatement_213 rfl (lv_at hl 0 rfl) ?_
        refine lv_if_eq (tgt := 226) hx hb dX4_readsStatement_214 (by decide) (fun _ => ?_) (fun c9 => absurd c9 (by decide))
        refine lv_iconst (v := 0) hx hb dX4_readsStatement_226 (by decide) ?_
        obtain ⟨rfl, rfl, rfl⟩ := rtv3 h
        exact rI hQ hx hb hr hlocks hAe hP hS rfl rfl dX4_readsStatement_227
      · replace h := fx_ite_f c179 h
        refine lv_iconst (v := 1) hx hb dX4_readsStatement_182 (by decide) ?_
        refine lv_goto (tgt := 187) hx hb dX4_readsStatement_183 (by decide) ?_
        refine lv_istore_n (lv' := [(2, .int (1 : Int32)), (1, .int r1), (0, .ref (a 0))]) hx hb dX4_readsStatement_187 rfl hl (by decide) rfl (fun ls hl => ?_)
        refine lv_goto (tgt := 213) hx hb dX4_readsStatement_188 (by decide) ?_
        refine lv_iload_n hx hb dX4_readsStatement_213 rfl (lv_at hl 0 rfl) ?_
        refine lv_if_eq (tgt := 226) hx hb dX4_readsStatement_214 (by decide) (fun c9 => absurd c9 (by decide)) (fun _ => ?_)
        refine lv_aload_n hx hb dX4_readsStatement_217 rfl (lv_at hl 2 rfl) ?_
        obtain ⟨r218, q218, h⟩ := bnd1_inv h
        refine kVI (n := 0) (As := []) (rest := []) CF hl hK hP hD hS hA (c_X4_here l D cI a ss mm im wa hi le ro re lm rm u176_pl u176_nu gi bg bm sd  r218 q218) gX4_readsStatement_X4_here rfl dX4_readsStatement_218 (by decide +kernel) ⟨⟨rfl, rfl⟩, ⟨Nat.le_of_ble_eq_true rfl, Nat.le_of_ble_eq_true rfl⟩, Nat.zero_le _, Nat.zero_le _⟩ (JN.whole rfl) 0 rfl ⟨rfl, rfl⟩ rfl rfl (Nat.le_of_ble_eq_true rfl) (fun H locs hP hD hS => ?_)
        replace hP : va_P D vwCl (cM a cI ss mm im wa hi le ro re lm rm u176_pl u176_nu gi bg bm sd) H := hP
        replace hD : va_D A (cM a cI ss mm im wa hi le ro re lm rm u176_pl u176_nu gi bg bm sd) := hD
        refine lv_bipush (v := 59) hx hb dX4_readsStatement_221 (by decide) ?_
        refine lv_icmp_eq (tgt := 228) hx hb dX4_readsStatement_223 (by decide) (fun c223 => ?_) (fun c223 => ?_)
        · replace h := fx_ite_t c223 h
          refine lv_aload_n hx hb dX4_readsStatement_228 rfl (lv_at hl 2 rfl) ?_
          refine lv_dup hx hb dX4_readsStatement_229 rfl ?_
          refine va_get (D := D) (ci := 4) (v := .int u176_pl) (C := RX4) (T := TX4) (N := 16) hx hb hts i4 hown hK hP 0 rfl rfl 10 (by decide) f105 (fun _ h9 => h9) rfl dX4_readsStatement_230 ?_
          refine lv_iconst (v := 1) hx hb dX4_readsStatement_233 (by decide) ?_
          refine lv_iadd hx hb dX4_readsStatement_234 ?_
          refine va_put (D := D) (ci := 4) (v := .int (u176_pl + (1 : Int32))) (ty := .int) (C := RX4) (T := TX4) (N := 16) hx hb hts i4 tyX4 tyX4_ok nmX4 hown hK hP hD hS 0 rfl rfl 10 (by decide) f105 (fun _ h9 => h9) rfl (by decide +kernel) rfl rfl (Nat.le_of_ble_eq_true rfl) dX4_readsStatement_235 (fun H locs hP hD hS => ?_)
          replace hP : va_P D vwCl (cM a cI ss mm im wa hi le ro re lm rm (u176_pl + (1 : Int32)) u176_nu gi bg bm sd) H := hP
          replace hD : va_D A (cM a cI ss mm im wa hi le ro re lm rm (u176_pl + (1 : Int32)) u176_nu gi bg bm sd) := hD
          refine lv_iconst (v := 1) hx hb dX4_readsStatement_238 (by decide) ?_
          obtain ⟨rfl, rfl, rfl⟩ := rtv3 h
          exact rI hQ hx hb hr hlocks hAe hP hS rfl rfl dX4_readsStatement_239
        · replace h := fx_ite_f c223 h
          refine lv_iconst (v := 0) hx hb dX4_readsStatement_226 (by decide) ?_
          obtain ⟨rfl, rfl, rfl⟩ := rtv3 h
          exact rI hQ hx hb hr hlocks hAe hP hS rfl rfl dX4_readsStatement_227
  replace h := fx_ite_f s16_98 h
  by_cases s16_100 : r1 = 100
  · replace h := fx_ite_t s16_100 h
    refine lv_tableIn (tgt := 191) hx hb dX4_readsStatement_16 (by rw [s16_100]; decide) (by rw [s16_100]; decide) (off := 175) (by rw [s16_100]; rfl) (by decide) ?_
    refine lv_aload_n hx hb dX4_readsStatement_191 rfl (lv_at hl 1 rfl) ?_
    refine lv_iconst (v := 0) hx hb dX4_readsStatement_192 (by decide) ?_
    refine lv_iconst (v := 2) hx hb dX4_readsStatement_193 (by decide) ?_
    obtain ⟨r194, u194_pl, u194_nu, q194, h⟩ := bnd3_inv h
    refine kVI (n := 2) (As := [.int (0 : Int32), .int (2 : Int32)]) (rest := []) CF hl hK hP hD hS hA (c_X4_readsNumber l D cI a ss mm im wa hi le ro re lm rm (pl + (1 : Int32)) nu gi bg bm sd (0 : Int32) (2 : Int32) r194 u194_pl u194_nu q194) gX4_readsStatement_X4_readsNumber rfl dX4_readsStatement_194 (by decide +kernel) ⟨⟨rfl, rfl⟩, ⟨Nat.le_of_ble_eq_true rfl, Nat.le_of_ble_eq_true rfl⟩, Nat.zero_le _, Nat.zero_le _⟩ (JN.whole (w1 := (cM a cI ss mm im wa hi le ro re lm rm u194_pl u194_nu gi bg bm sd)) rfl) 0 rfl ⟨rfl, rfl⟩ rfl rfl (Nat.le_of_ble_eq_true rfl) (fun H locs hP hD hS => ?_)
    replace hP : va_P D vwCl (cM a cI ss mm im wa hi le ro re lm rm u194_pl u194_nu gi bg bm sd) H := hP
    replace hD : va_D A (cM a cI ss mm im wa hi le ro re lm rm u194_pl u194_nu gi bg bm sd) := hD
    refine lv_istore_n (lv' := [(2, .int r194), (1, .int r1), (0, .ref (a 0))]) hx hb dX4_readsStatement_197 rfl hl (by decide) rfl (fun ls hl => ?_)
    refine lv_goto (tgt := 213) hx hb dX4_readsStatement_198 (by decide) ?_
    refine lv_iload_n hx hb dX4_readsStatement_213 rfl (lv_at hl 0 rfl) ?_
    refine lv_if_eq (tgt := 226) hx hb dX4_readsStatement_214 (by decide) (fun c214 => ?_) (fun c214 => ?_)
    · replace h := fx_ite_t c214 h
      refine lv_iconst (v := 0) hx hb dX4_readsStatement_226 (by decide) ?_
      obtain ⟨rfl, rfl, rfl⟩ := rtv3 h
      exact rI hQ hx hb hr hlocks hAe hP hS rfl rfl dX4_readsStatement_227
    · replace h := fx_ite_f c214 h
      refine lv_aload_n hx hb dX4_readsStatement_217 rfl (lv_at hl 2 rfl) ?_
      obtain ⟨r218, q218, h⟩ := bnd1_inv h
      refine kVI (n := 0) (As := []) (rest := []) CF hl hK hP hD hS hA (c_X4_here l D cI a ss mm im wa hi le ro re lm rm u194_pl u194_nu gi bg bm sd  r218 q218) gX4_readsStatement_X4_here rfl dX4_readsStatement_218 (by decide +kernel) ⟨⟨rfl, rfl⟩, ⟨Nat.le_of_ble_eq_true rfl, Nat.le_of_ble_eq_true rfl⟩, Nat.zero_le _, Nat.zero_le _⟩ (JN.whole rfl) 0 rfl ⟨rfl, rfl⟩ rfl rfl (Nat.le_of_ble_eq_true rfl) (fun H locs hP hD hS => ?_)
      replace hP : va_P D vwCl (cM a cI ss mm im wa hi le ro re lm rm u194_pl u194_nu gi bg bm sd) H := hP
      replace hD : va_D A (cM a cI ss mm im wa hi le ro re lm rm u194_pl u194_nu gi bg bm sd) := hD
      refine lv_bipush (v := 59) hx hb dX4_readsStatement_221 (by decide) ?_
      refine lv_icmp_eq (tgt := 228) hx hb dX4_readsStatement_223 (by decide) (fun c223 => ?_) (fun c223 => ?_)
      · replace h := fx_ite_t c223 h
        refine lv_aload_n hx hb dX4_readsStatement_228 rfl (lv_at hl 2 rfl) ?_
        refine lv_dup hx hb dX4_readsStatement_229 rfl ?_
        refine va_get (D := D) (ci := 4) (v := .int u194_pl) (C := RX4) (T := TX4) (N := 16) hx hb hts i4 hown hK hP 0 rfl rfl 10 (by decide) f105 (fun _ h9 => h9) rfl dX4_readsStatement_230 ?_
        refine lv_iconst (v := 1) hx hb dX4_readsStatement_233 (by decide) ?_
        refine lv_iadd hx hb dX4_readsStatement_234 ?_
        refine va_put (D := D) (ci := 4) (v := .int (u194_pl + (1 : Int32))) (ty := .int) (C := RX4) (T := TX4) (N := 16) hx hb hts i4 tyX4 tyX4_ok nmX4 hown hK hP hD hS 0 rfl rfl 10 (by decide) f105 (fun _ h9 => h9) rfl (by decide +kernel) rfl rfl (Nat.le_of_ble_eq_true rfl) dX4_readsStatement_235 (fun H locs hP hD hS => ?_)
        replace hP : va_P D vwCl (cM a cI ss mm im wa hi le ro re lm rm (u194_pl + (1 : Int32)) u194_nu gi bg bm sd) H := hP
        replace hD : va_D A (cM a cI ss mm im wa hi le ro re lm rm (u194_pl + (1 : Int32)) u194_nu gi bg bm sd) := hD
        refine lv_iconst (v := 1) hx hb dX4_readsStatement_238 (by decide) ?_
        obtain ⟨rfl, rfl, rfl⟩ := rtv3 h
        exact rI hQ hx hb hr hlocks hAe hP hS rfl rfl dX4_readsStatement_239
      · replace h := fx_ite_f c223 h
        refine lv_iconst (v := 0) hx hb dX4_readsStatement_226 (by decide) ?_
        obtain ⟨rfl, rfl, rfl⟩ := rtv3 h
        exact rI hQ hx hb hr hlocks hAe hP hS rfl rfl dX4_readsStatement_227
  replace h := fx_ite_f s16_100 h
  by_cases s16_110 : r1 = 110
  · replace h := fx_ite_t s16_110 h
    refine lv_tableIn (tgt := 120) hx hb dX4_readsStatement_16 (by rw [s16_110]; decide) (by rw [s16_110]; decide) (off := 104) (by rw [s16_110]; rfl) (by decide) ?_
    refine lv_aload_n hx hb dX4_readsStatement_120 rfl (lv_at hl 1 rfl) ?_
    refine lv_iconst (v := 0) hx hb dX4_readsStatement_121 (by decide) ?_
    refine lv_iconst (v := 1) hx hb dX4_readsStatement_122 (by decide) ?_
    obtain ⟨r123, u123_pl, u123_nu, q123, h⟩ := bnd3_inv h
    refine kVI (n := 2) (As := [.int (0 : Int32), .int (1 : Int32)]) (rest := []) CF hl hK hP hD hS hA (c_X4_readsNumber l D cI a ss mm im wa hi le ro re lm rm (pl + (1 : Int32)) nu gi bg bm sd (0 : Int32) (1 : Int32) r123 u123_pl u123_nu q123) gX4_readsStatement_X4_readsNumber rfl dX4_readsStatement_123 (by decide +kernel) ⟨⟨rfl, rfl⟩, ⟨Nat.le_of_ble_eq_true rfl, Nat.le_of_ble_eq_true rfl⟩, Nat.zero_le _, Nat.zero_le _⟩ (JN.whole (w1 := (cM a cI ss mm im wa hi le ro re lm rm u123_pl u123_nu gi bg bm sd)) rfl) 0 rfl ⟨rfl, rfl⟩ rfl rfl (Nat.le_of_ble_eq_true rfl) (fun H locs hP hD hS => ?_)
    replace hP : va_P D vwCl (cM a cI ss mm im wa hi le ro re lm rm u123_pl u123_nu gi bg bm sd) H := hP
    replace hD : va_D A (cM a cI ss mm im wa hi le ro re lm rm u123_pl u123_nu gi bg bm sd) := hD
    refine lv_istore_n (lv' := [(2, .int r123), (1, .int r1), (0, .ref (a 0))]) hx hb dX4_readsStatement_126 rfl hl (by decide) rfl (fun ls hl => ?_)
    refine lv_goto (tgt := 213) hx hb dX4_readsStatement_127 (by decide) ?_
    refine lv_iload_n hx hb dX4_readsStatement_213 rfl (lv_at hl 0 rfl) ?_
    refine lv_if_eq (tgt := 226) hx hb dX4_readsStatement_214 (by decide) (fun c214 => ?_) (fun c214 => ?_)
    · replace h := fx_ite_t c214 h
      refine lv_iconst (v := 0) hx hb dX4_readsStatement_226 (by decide) ?_
      obtain ⟨rfl, rfl, rfl⟩ := rtv3 h
      exact rI hQ hx hb hr hlocks hAe hP hS rfl rfl dX4_readsStatement_227
    · replace h := fx_ite_f c214 h
      refine lv_aload_n hx hb dX4_readsStatement_217 rfl (lv_at hl 2 rfl) ?_
      obtain ⟨r218, q218, h⟩ := bnd1_inv h
      refine kVI (n := 0) (As := []) (rest := []) CF hl hK hP hD hS hA (c_X4_here l D cI a ss mm im wa hi le ro re lm rm u123_pl u123_nu gi bg bm sd  r218 q218) gX4_readsStatement_X4_here rfl dX4_readsStatement_218 (by decide +kernel) ⟨⟨rfl, rfl⟩, ⟨Nat.le_of_ble_eq_true rfl, Nat.le_of_ble_eq_true rfl⟩, Nat.zero_le _, Nat.zero_le _⟩ (JN.whole rfl) 0 rfl ⟨rfl, rfl⟩ rfl rfl (Nat.le_of_ble_eq_true rfl) (fun H locs hP hD hS => ?_)
      replace hP : va_P D vwCl (cM a cI ss mm im wa hi le ro re lm rm u123_pl u123_nu gi bg bm sd) H := hP
      replace hD : va_D A (cM a cI ss mm im wa hi le ro re lm rm u123_pl u123_nu gi bg bm sd) := hD
      refine lv_bipush (v := 59) hx hb dX4_readsStatement_221 (by decide) ?_
      refine lv_icmp_eq (tgt := 228) hx hb dX4_readsStatement_223 (by decide) (fun c223 => ?_) (fun c223 => ?_)
      · replace h := fx_ite_t c223 h
        refine lv_aload_n hx hb dX4_readsStatement_228 rfl (lv_at hl 2 rfl) ?_
        refine lv_dup hx hb dX4_readsStatement_229 rfl ?_
        refine va_get (D := D) (ci := 4) (v := .int u123_pl) (C := RX4) (T := TX4) (N := 16) hx hb hts i4 hown hK hP 0 rfl rfl 10 (by decide) f105 (fun _ h9 => h9) rfl dX4_readsStatement_230 ?_
        refine lv_iconst (v := 1) hx hb dX4_readsStatement_233 (by decide) ?_
        refine lv_iadd hx hb dX4_readsStatement_234 ?_
        refine va_put (D := D) (ci := 4) (v := .int (u123_pl + (1 : Int32))) (ty := .int) (C := RX4) (T := TX4) (N := 16) hx hb hts i4 tyX4 tyX4_ok nmX4 hown hK hP hD hS 0 rfl rfl 10 (by decide) f105 (fun _ h9 => h9) rfl (by decide +kernel) rfl rfl (Nat.le_of_ble_eq_true rfl) dX4_readsStatement_235 (fun H locs hP hD hS => ?_)
        replace hP : va_P D vwCl (cM a cI ss mm im wa hi le ro re lm rm (u123_pl + (1 : Int32)) u123_nu gi bg bm sd) H := hP
        replace hD : va_D A (cM a cI ss mm im wa hi le ro re lm rm (u123_pl + (1 : Int32)) u123_nu gi bg bm sd) := hD
        refine lv_iconst (v := 1) hx hb dX4_readsStatement_238 (by decide) ?_
        obtain ⟨rfl, rfl, rfl⟩ := rtv3 h
        exact rI hQ hx hb hr hlocks hAe hP hS rfl rfl dX4_readsStatement_239
      · replace h := fx_ite_f c223 h
        refine lv_iconst (v := 0) hx hb dX4_readsStatement_226 (by decide) ?_
        obtain ⟨rfl, rfl, rfl⟩ := rtv3 h
        exact rI hQ hx hb hr hlocks hAe hP hS rfl rfl dX4_readsStatement_227
  replace h := fx_ite_f s16_110 h
  by_cases s16_112 : r1 = 112
  · replace h := fx_ite_t s16_112 h
    refine lv_tableIn (tgt := 120) hx hb dX4_readsStatement_16 (by rw [s16_112]; decide) (by rw [s16_112]; decide) (off := 104) (by rw [s16_112]; rfl) (by decide) ?_
    refine lv_aload_n hx hb dX4_readsStatement_120 rfl (lv_at hl 1 rfl) ?_
    refine lv_iconst (v := 0) hx hb dX4_readsStatement_121 (by decide) ?_
    refine lv_iconst (v := 1) hx hb dX4_readsStatement_122 (by decide) ?_
    obtain ⟨r123, u123_pl, u123_nu, q123, h⟩ := bnd3_inv h
    refine kVI (n := 2) (As := [.int (0 : Int32), .int (1 : Int32)]) (rest := []) CF hl hK hP hD hS hA (c_X4_readsNumber l D cI a ss mm im wa hi le ro re lm rm (pl + (1 : Int32)) nu gi bg bm sd (0 : Int32) (1 : Int32) r123 u123_pl u123_nu q123) gX4_readsStatement_X4_readsNumber rfl dX4_readsStatement_123 (by decide +kernel) ⟨⟨rfl, rfl⟩, ⟨Nat.le_of_ble_eq_true rfl, Nat.le_of_ble_eq_true rfl⟩, Nat.zero_le _, Nat.zero_le _⟩ (JN.whole (w1 := (cM a cI ss mm im wa hi le ro re lm rm u123_pl u123_nu gi bg bm sd)) rfl) 0 rfl ⟨rfl, rfl⟩ rfl rfl (Nat.le_of_ble_eq_true rfl) (fun H locs hP hD hS => ?_)
    replace hP : va_P D vwCl (cM a cI ss mm im wa hi le ro re lm rm u123_pl u123_nu gi bg bm sd) H := hP
    replace hD : va_D A (cM a cI ss mm im wa hi le ro re lm rm u123_pl u123_nu gi bg bm sd) := hD
    refine lv_istore_n (lv' := [(2, .int r123), (1, .int r1), (0, .ref (a 0))]) hx hb dX4_readsStatement_126 rfl hl (by decide) rfl (fun ls hl => ?_)
    refine lv_goto (tgt := 213) hx hb dX4_readsStatement_127 (by decide) ?_
    refine lv_iload_n hx hb dX4_readsStatement_213 rfl (lv_at hl 0 rfl) ?_
    refine lv_if_eq (tgt := 226) hx hb dX4_readsStatement_214 (by decide) (fun c214 => ?_) (fun c214 => ?_)
    · replace h := fx_ite_t c214 h
      refine lv_iconst (v := 0) hx hb dX4_readsStatement_226 (by decide) ?_
      obtain ⟨rfl, rfl, rfl⟩ := rtv3 h
      exact rI hQ hx hb hr hlocks hAe hP hS rfl rfl dX4_readsStatement_227
    · replace h := fx_ite_f c214 h
      refine lv_aload_n hx hb dX4_readsStatement_217 rfl (lv_at hl 2 rfl) ?_
      obtain ⟨r218, q218, h⟩ := bnd1_inv h
      refine kVI (n := 0) (As := []) (rest := []) CF hl hK hP hD hS hA (c_X4_here l D cI a ss mm im wa hi le ro re lm rm u123_pl u123_nu gi bg bm sd  r218 q218) gX4_readsStatement_X4_here rfl dX4_readsStatement_218 (by decide +kernel) ⟨⟨rfl, rfl⟩, ⟨Nat.le_of_ble_eq_true rfl, Nat.le_of_ble_eq_true rfl⟩, Nat.zero_le _, Nat.zero_le _⟩ (JN.whole rfl) 0 rfl ⟨rfl, rfl⟩ rfl rfl (Nat.le_of_ble_eq_true rfl) (fun H locs hP hD hS => ?_)
      replace hP : va_P D vwCl (cM a cI ss mm im wa hi le ro re lm rm u123_pl u123_nu gi bg bm sd) H := hP
      replace hD : va_D A (cM a cI ss mm im wa hi le ro re lm rm u123_pl u123_nu gi bg bm sd) := hD
      refine lv_bipush (v := 59) hx hb dX4_readsStatement_221 (by decide) ?_
      refine lv_icmp_eq (tgt := 228) hx hb dX4_readsStatement_223 (by decide) (fun c223 => ?_) (fun c223 => ?_)
      · replace h := fx_ite_t c223 h
        refine lv_aload_n hx hb dX4_readsStatement_228 rfl (lv_at hl 2 rfl) ?_
        refine lv_dup hx hb dX4_readsStatement_229 rfl ?_
        refine va_get (D := D) (ci := 4) (v := .int u123_pl) (C := RX4) (T := TX4) (N := 16) hx hb hts i4 hown hK hP 0 rfl rfl 10 (by decide) f105 (fun _ h9 => h9) rfl dX4_readsStatement_230 ?_
        refine lv_iconst (v := 1) hx hb dX4_readsStatement_233 (by decide) ?_
        refine lv_iadd hx hb dX4_readsStatement_234 ?_
        refine va_put (D := D) (ci := 4) (v := .int (u123_pl + (1 : Int32))) (ty := .int) (C := RX4) (T := TX4) (N := 16) hx hb hts i4 tyX4 tyX4_ok nmX4 hown hK hP hD hS 0 rfl rfl 10 (by decide) f105 (fun _ h9 => h9) rfl (by decide +kernel) rfl rfl (Nat.le_of_ble_eq_true rfl) dX4_readsStatement_235 (fun H locs hP hD hS => ?_)
        replace hP : va_P D vwCl (cM a cI ss mm im wa hi le ro re lm rm (u123_pl + (1 : Int32)) u123_nu gi bg bm sd) H := hP
        replace hD : va_D A (cM a cI ss mm im wa hi le ro re lm rm (u123_pl + (1 : Int32)) u123_nu gi bg bm sd) := hD
        refine lv_iconst (v := 1) hx hb dX4_readsStatement_238 (by decide) ?_
        obtain ⟨rfl, rfl, rfl⟩ := rtv3 h
        exact rI hQ hx hb hr hlocks hAe hP hS rfl rfl dX4_readsStatement_239
      · replace h := fx_ite_f c223 h
        refine lv_iconst (v := 0) hx hb dX4_readsStatement_226 (by decide) ?_
        obtain ⟨rfl, rfl, rfl⟩ := rtv3 h
        exact rI hQ hx hb hr hlocks hAe hP hS rfl rfl dX4_readsStatement_227
  replace h := fx_ite_f s16_112 h
  by_cases s16_115 : r1 = 115
  · replace h := fx_ite_t s16_115 h
    refine lv_tableIn (tgt := 164) hx hb dX4_readsStatement_16 (by rw [s16_115]; decide) (by rw [s16_115]; decide) (off := 148) (by rw [s16_115]; rfl) (by decide) ?_
    refine lv_aload_n hx hb dX4_readsStatement_164 rfl (lv_at hl 1 rfl) ?_
    refine lv_iconst (v := 0) hx hb dX4_readsStatement_165 (by decide) ?_
    refine lv_iconst (v := 1) hx hb dX4_readsStatement_166 (by decide) ?_
    obtain ⟨r167, u167_pl, u167_nu, q167, h⟩ := bnd3_inv h
    refine kVI (n := 2) (As := [.int (0 : Int32), .int (1 : Int32)]) (rest := []) CF hl hK hP hD hS hA (c_X4_readsNumber l D cI a ss mm im wa hi le ro re lm rm (pl + (1 : Int32)) nu gi bg bm sd (0 : Int32) (1 : Int32) r167 u167_pl u167_nu q167) gX4_readsStatement_X4_readsNumber rfl dX4_readsStatement_167 (by decide +kernel) ⟨⟨rfl, rfl⟩, ⟨Nat.le_of_ble_eq_true rfl, Nat.le_of_ble_eq_true rfl⟩, Nat.zero_le _, Nat.zero_le _⟩ (JN.whole (w1 := (cM a cI ss mm im wa hi le ro re lm rm u167_pl u167_nu gi bg bm sd)) rfl) 0 rfl ⟨rfl, rfl⟩ rfl rfl (Nat.le_of_ble_eq_true rfl) (fun H locs hP hD hS => ?_)
    replace hP : va_P D vwCl (cM a cI ss mm im wa hi le ro re lm rm u167_pl u167_nu gi bg bm sd) H := hP
    replace hD : va_D A (cM a cI ss mm im wa hi le ro re lm rm u167_pl u167_nu gi bg bm sd) := hD
    refine lv_if_eq (tgt := 186) hx hb dX4_readsStatement_170 (by decide) (fun c170 => ?_) (fun c170 => ?_)
    · replace h := fx_ite_t c170 h
      refine lv_iconst (v := 0) hx hb dX4_readsStatement_186 (by decide) ?_
      refine lv_istore_n (lv' := [(2, .int (0 : Int32)), (1, .int r1), (0, .ref (a 0))]) hx hb dX4_readsStatement_187 rfl hl (by decide) rfl (fun ls hl => ?_)
      refine lv_goto (tgt := 213) hx hb dX4_readsStatement_188 (by decide) ?_
      refine lv_iload_n hx hb dX4_readsStatement_213 rfl (lv_at hl 0 rfl) ?_
      refine lv_if_eq (tgt := 226) hx hb dX4_readsStatement_214 (by decide) (fun _ => ?_) (fun c9 => absurd c9 (by decide))
      refine lv_iconst (v := 0) hx hb dX4_readsStatement_226 (by decide) ?_
      obtain ⟨rfl, rfl, rfl⟩ := rtv3 h
      exact rI hQ hx hb hr hlocks hAe hP hS rfl rfl dX4_readsStatement_227
    · replace h := fx_ite_f c170 h
      refine lv_aload_n hx hb dX4_readsStatement_173 rfl (lv_at hl 1 rfl) ?_
      refine lv_iconst (v := 1) hx hb dX4_readsStatement_174 (by decide) ?_
      refine lv_iconst (v := 1) hx hb dX4_readsStatement_175 (by decide) ?_
      obtain ⟨r176, u176_pl, u176_nu, q176, h⟩ := bnd3_inv h
      refine kVI (n := 2) (As := [.int (1 : Int32), .int (1 : Int32)]) (rest := []) CF hl hK hP hD hS hA (c_X4_readsNumber l D cI a ss mm im wa hi le ro re lm rm u167_pl u167_nu gi bg bm sd (1 : Int32) (1 : Int32) r176 u176_pl u176_nu q176) gX4_readsStatement_X4_readsNumber rfl dX4_readsStatement_176 (by decide +kernel) ⟨⟨rfl, rfl⟩, ⟨Nat.le_of_ble_eq_true rfl, Nat.le_of_ble_eq_true rfl⟩, Nat.zero_le _, Nat.zero_le _⟩ (JN.whole (w1 := (cM a cI ss mm im wa hi le ro re lm rm u176_pl u176_nu gi bg bm sd)) rfl) 0 rfl ⟨rfl, rfl⟩ rfl rfl (Nat.le_of_ble_eq_true rfl) (fun H locs hP hD hS => ?_)
      replace hP : va_P D vwCl (cM a cI ss mm im wa hi le ro re lm rm u176_pl u176_nu gi bg bm sd) H := hP
      replace hD : va_D A (cM a cI ss mm im wa hi le ro re lm rm u176_pl u176_nu gi bg bm sd) := hD
      refine lv_if_eq (tgt := 186) hx hb dX4_readsStatement_179 (by decide) (fun c179 => ?_) (fun c179 => ?_)
      · replace h := fx_ite_t c179 h
        refine lv_iconst (v := 0) hx hb dX4_readsStatement_186 (by decide) ?_
        refine lv_istore_n (lv' := [(2, .int (0 : Int32)), (1, .int r1), (0, .ref (a 0))]) hx hb dX4_readsStatement_187 rfl hl (by decide) rfl (fun ls hl => ?_)
        refine lv_goto (tgt := 213) hx hb dX4_readsStatement_188 (by decide) ?_
        refine lv_iload_n hx hb dX4_readsStatement_213 rfl (lv_at hl 0 rfl) ?_
        refine lv_if_eq (tgt := 226) hx hb dX4_readsStatement_214 (by decide) (fun _ => ?_) (fun c9 => absurd c9 (by decide))
        refine lv_iconst (v := 0) hx hb dX4_readsStatement_226 (by decide) ?_
        obtain ⟨rfl, rfl, rfl⟩ := rtv3 h
        exact rI hQ hx hb hr hlocks hAe hP hS rfl rfl dX4_readsStatement_227
      · replace h := fx_ite_f c179 h
        refine lv_iconst (v := 1) hx hb dX4_readsStatement_182 (by decide) ?_
        refine lv_goto (tgt := 187) hx hb dX4_readsStatement_183 (by decide) ?_
        refine lv_istore_n (lv' := [(2, .int (1 : Int32)), (1, .int r1), (0, .ref (a 0))]) hx hb dX4_readsStatement_187 rfl hl (by decide) rfl (fun ls hl => ?_)
        refine lv_goto (tgt := 213) hx hb dX4_readsStatement_188 (by decide) ?_
        refine lv_iload_n hx hb dX4_readsStatement_213 rfl (lv_at hl 0 rfl) ?_
        refine lv_if_eq (tgt := 226) hx hb dX4_readsStatement_214 (by decide) (fun c9 => absurd c9 (by decide)) (fun _ => ?_)
        refine lv_aload_n hx hb dX4_readsStatement_217 rfl (lv_at hl 2 rfl) ?_
        obtain ⟨r218, q218, h⟩ := bnd1_inv h
        refine kVI (n := 0) (As := []) (rest := []) CF hl hK hP hD hS hA (c_X4_here l D cI a ss mm im wa hi le ro re lm rm u176_pl u176_nu gi bg bm sd  r218 q218) gX4_readsStatement_X4_here rfl dX4_readsStatement_218 (by decide +kernel) ⟨⟨rfl, rfl⟩, ⟨Nat.le_of_ble_eq_true rfl, Nat.le_of_ble_eq_true rfl⟩, Nat.zero_le _, Nat.zero_le _⟩ (JN.whole rfl) 0 rfl ⟨rfl, rfl⟩ rfl rfl (Nat.le_of_ble_eq_true rfl) (fun H locs hP hD hS => ?_)
        replace hP : va_P D vwCl (cM a cI ss mm im wa hi le ro re lm rm u176_pl u176_nu gi bg bm sd) H := hP
        replace hD : va_D A (cM a cI ss mm im wa hi le ro re lm rm u176_pl u176_nu gi bg bm sd) := hD
        refine lv_bipush (v := 59) hx hb dX4_readsStatement_221 (by decide) ?_
        refine lv_icmp_eq (tgt := 228) hx hb dX4_readsStatement_223 (by decide) (fun c223 => ?_) (fun c223 => ?_)
        · replace h := fx_ite_t c223 h
          refine lv_aload_n hx hb dX4_readsStatement_228 rfl (lv_at hl 2 rfl) ?_
          refine lv_dup hx hb dX4_readsStatement_229 rfl ?_
          refine va_get (D := D) (ci := 4) (v := .int u176_pl) (C := RX4) (T := TX4) (N := 16) hx hb hts i4 hown hK hP 0 rfl rfl 10 (by decide) f105 (fun _ h9 => h9) rfl dX4_readsStatement_230 ?_
          refine lv_iconst (v := 1) hx hb dX4_readsStatement_233 (by decide) ?_
          refine lv_iadd hx hb dX4_readsStatement_234 ?_
          refine va_put (D := D) (ci := 4) (v := .int (u176_pl + (1 : Int32))) (ty := .int) (C := RX4) (T := TX4) (N := 16) hx hb hts i4 tyX4 tyX4_ok nmX4 hown hK hP hD hS 0 rfl rfl 10 (by decide) f105 (fun _ h9 => h9) rfl (by decide +kernel) rfl rfl (Nat.le_of_ble_eq_true rfl) dX4_readsStatement_235 (fun H locs hP hD hS => ?_)
          replace hP : va_P D vwCl (cM a cI ss mm im wa hi le ro re lm rm (u176_pl + (1 : Int32)) u176_nu gi bg bm sd) H := hP
          replace hD : va_D A (cM a cI ss mm im wa hi le ro re lm rm (u176_pl + (1 : Int32)) u176_nu gi bg bm sd) := hD
          refine lv_iconst (v := 1) hx hb dX4_readsStatement_238 (by decide) ?_
          obtain ⟨rfl, rfl, rfl⟩ := rtv3 h
          exact rI hQ hx hb hr hlocks hAe hP hS rfl rfl dX4_readsStatement_239
        · replace h := fx_ite_f c223 h
          refine lv_iconst (v := 0) hx hb dX4_readsStatement_226 (by decide) ?_
          obtain ⟨rfl, rfl, rfl⟩ := rtv3 h
          exact rI hQ hx hb hr hlocks hAe hP hS rfl rfl dX4_readsStatement_227
  replace h := fx_ite_f s16_115 h
  by_cases s16_116 : r1 = 116
  · replace h := fx_ite_t s16_116 h
    refine lv_tableIn (tgt := 130) hx hb dX4_readsStatement_16 (by rw [s16_116]; decide) (by rw [s16_116]; decide) (off := 114) (by rw [s16_116]; rfl) (by decide) ?_
    refine lv_aload_n hx hb dX4_readsStatement_130 rfl (lv_at hl 1 rfl) ?_
    obtain ⟨r131, u131_pl, u131_nu, q131, h⟩ := bnd3_inv h
    refine kVI (n := 0) (As := []) (rest := []) CF hl hK hP hD hS hA (c_X4_readsKind l D cI a ss mm im wa hi le ro re lm rm (pl + (1 : Int32)) nu gi bg bm sd  r131 u131_pl u131_nu q131) gX4_readsStatement_X4_readsKind rfl dX4_readsStatement_131 (by decide +kernel) ⟨⟨rfl, rfl⟩, ⟨Nat.le_of_ble_eq_true rfl, Nat.le_of_ble_eq_true rfl⟩, Nat.zero_le _, Nat.zero_le _⟩ (JN.whole (w1 := (cM a cI ss mm im wa hi le ro re lm rm u131_pl u131_nu gi bg bm sd)) rfl) 0 rfl ⟨rfl, rfl⟩ rfl rfl (Nat.le_of_ble_eq_true rfl) (fun H locs hP hD hS => ?_)
    replace hP : va_P D vwCl (cM a cI ss mm im wa hi le ro re lm rm u131_pl u131_nu gi bg bm sd) H := hP
    replace hD : va_D A (cM a cI ss mm im wa hi le ro re lm rm u131_pl u131_nu gi bg bm sd) := hD
    refine lv_if_eq (tgt := 159) hx hb dX4_readsStatement_134 (by decide) (fun c134 => ?_) (fun c134 => ?_)
    · replace h := fx_ite_t c134 h
      refine lv_iconst (v := 0) hx hb dX4_readsStatement_159 (by decide) ?_
      refine lv_istore_n (lv' := [(2, .int (0 : Int32)), (1, .int r1), (0, .ref (a 0))]) hx hb dX4_readsStatement_160 rfl hl (by decide) rfl (fun ls hl => ?_)
      refine lv_goto (tgt := 213) hx hb dX4_readsStatement_161 (by decide) ?_
      refine lv_iload_n hx hb dX4_readsStatement_213 rfl (lv_at hl 0 rfl) ?_
      refine lv_if_eq (tgt := 226) hx hb dX4_readsStatement_214 (by decide) (fun _ => ?_) (fun c9 => absurd c9 (by decide))
      refine lv_iconst (v := 0) hx hb dX4_readsStatement_226 (by decide) ?_
      obtain ⟨rfl, rfl, rfl⟩ := rtv3 h
      exact rI hQ hx hb hr hlocks hAe hP hS rfl rfl dX4_readsStatement_227
    · replace h := fx_ite_f c134 h
      refine lv_aload_n hx hb dX4_readsStatement_137 rfl (lv_at hl 1 rfl) ?_
      refine lv_iconst (v := 1) hx hb dX4_readsStatement_138 (by decide) ?_
      refine lv_iconst (v := 1) hx hb dX4_readsStatement_139 (by decide) ?_
      obtain ⟨r140, u140_pl, u140_nu, q140, h⟩ := bnd3_inv h
      refine kVI (n := 2) (As := [.int (1 : Int32), .int (1 : Int32)]) (rest := []) CF hl hK hP hD hS hA (c_X4_readsNumber l D cI a ss mm im wa hi le ro re lm rm u131_pl u131_nu gi bg bm sd (1 : Int32) (1 : Int32) r140 u140_pl u140_nu q140) gX4_readsStatement_X4_readsNumber rfl dX4_readsStatement_140 (by decide +kernel) ⟨⟨rfl, rfl⟩, ⟨Nat.le_of_ble_eq_true rfl, Nat.le_of_ble_eq_true rfl⟩, Nat.zero_le _, Nat.zero_le _⟩ (JN.whole (w1 := (cM a cI ss mm im wa hi le ro re lm rm u140_pl u140_nu gi bg bm sd)) rfl) 0 rfl ⟨rfl, rfl⟩ rfl rfl (Nat.le_of_ble_eq_true rfl) (fun H locs hP hD hS => ?_)
      replace hP : va_P D vwCl (cM a cI ss mm im wa hi le ro re lm rm u140_pl u140_nu gi bg bm sd) H := hP
      replace hD : va_D A (cM a cI ss mm im wa hi le ro re lm rm u140_pl u140_nu gi bg bm sd) := hD
      refine lv_if_eq (tgt := 159) hx hb dX4_readsStatement_143 (by decide) (fun c143 => ?_) (fun c143 => ?_)
      · replace h := fx_ite_t c143 h
        refine lv_iconst (v := 0) hx hb dX4_readsStatement_159 (by decide) ?_
        refine lv_istore_n (lv' := [(2, .int (0 : Int32)), (1, .int r1), (0, .ref (a 0))]) hx hb dX4_readsStatement_160 rfl hl (by decide) rfl (fun ls hl => ?_)
        refine lv_goto (tgt := 213) hx hb dX4_readsStatement_161 (by decide) ?_
        refine lv_iload_n hx hb dX4_readsStatement_213 rfl (lv_at hl 0 rfl) ?_
        refine lv_if_eq (tgt := 226) hx hb dX4_readsStatement_214 (by decide) (fun _ => ?_) (fun c9 => absurd c9 (by decide))
        refine lv_iconst (v := 0) hx hb dX4_readsStatement_226 (by decide) ?_
        obtain ⟨rfl, rfl, rfl⟩ := rtv3 h
        exact rI hQ hx hb hr hlocks hAe hP hS rfl rfl dX4_readsStatement_227
      · replace h := fx_ite_f c143 h
        refine lv_aload_n hx hb dX4_readsStatement_146 rfl (lv_at hl 1 rfl) ?_
        refine lv_iconst (v := 2) hx hb dX4_readsStatement_147 (by decide) ?_
        refine lv_iconst (v := 1) hx hb dX4_readsStatement_148 (by decide) ?_
        obtain ⟨r149, u149_pl, u149_nu, q149, h⟩ := bnd3_inv h
        refine kVI (n := 2) (As := [.int (2 : Int32), .int (1 : Int32)]) (rest := []) CF hl hK hP hD hS hA (c_X4_readsNumber l D cI a ss mm im wa hi le ro re lm rm u140_pl u140_nu gi bg bm sd (2 : Int32) (1 : Int32) r149 u149_pl u149_nu q149) gX4_readsStatement_X4_readsNumber rfl dX4_readsStatement_149 (by decide +kernel) ⟨⟨rfl, rfl⟩, ⟨Nat.le_of_ble_eq_true rfl, Nat.le_of_ble_eq_true rfl⟩, Nat.zero_le _, Nat.zero_le _⟩ (JN.whole (w1 := (cM a cI ss mm im wa hi le ro re lm rm u149_pl u149_nu gi bg bm sd)) rfl) 0 rfl ⟨rfl, rfl⟩ rfl rfl (Nat.le_of_ble_eq_true rfl) (fun H locs hP hD hS => ?_)
        replace hP : va_P D vwCl (cM a cI ss mm im wa hi le ro re lm rm u149_pl u149_nu gi bg bm sd) H := hP
        replace hD : va_D A (cM a cI ss mm im wa hi le ro re lm rm u149_pl u149_nu gi bg bm sd) := hD
        refine lv_if_eq (tgt := 159) hx hb dX4_readsStatement_152 (by decide) (fun c152 => ?_) (fun c152 => ?_)
        · replace h := fx_ite_t c152 h
          refine lv_iconst (v := 0) hx hb dX4_readsStatement_159 (by decide) ?_
          refine lv_istore_n (lv' := [(2, .int (0 : Int32)), (1, .int r1), (0, .ref (a 0))]) hx hb dX4_readsStatement_160 rfl hl (by decide) rfl (fun ls hl => ?_)
          refine lv_goto (tgt := 213) hx hb dX4_readsStatement_161 (by decide) ?_
          refine lv_iload_n hx hb dX4_readsStatement_213 rfl (lv_at hl 0 rfl) ?_
          refine lv_if_eq (tgt := 226) hx hb dX4_readsStatement_214 (by decide) (fun _ => ?_) (fun c9 => absurd c9 (by decide))
          refine lv_iconst (v := 0) hx hb dX4_readsStatement_226 (by decide) ?_
          obtain ⟨rfl, rfl, rfl⟩ := rtv3 h
          exact rI hQ hx hb hr hlocks hAe hP hS rfl rfl dX4_readsStatement_227
        · replace h := fx_ite_f c152 h
          refine lv_iconst (v := 1) hx hb dX4_readsStatement_155 (by decide) ?_
          refine lv_goto (tgt := 160) hx hb dX4_readsStatement_156 (by decide) ?_
          refine lv_istore_n (lv' := [(2, .int (1 : Int32)), (1, .int r1), (0, .ref (a 0))]) hx hb dX4_readsStatement_160 rfl hl (by decide) rfl (fun ls hl => ?_)
          refine lv_goto (tgt := 213) hx hb dX4_readsStatement_161 (by decide) ?_
          refine lv_iload_n hx hb dX4_readsStatement_213 rfl (lv_at hl 0 rfl) ?_
          refine lv_if_eq (tgt := 226) hx hb dX4_readsStatement_214 (by decide) (fun c9 => absurd c9 (by decide)) (fun _ => ?_)
          refine lv_aload_n hx hb dX4_readsStatement_217 rfl (lv_at hl 2 rfl) ?_
          obtain ⟨r218, q218, h⟩ := bnd1_inv h
          refine kVI (n := 0) (As := []) (rest := []) CF hl hK hP hD hS hA (c_X4_here l D cI a ss mm im wa hi le ro re lm rm u149_pl u149_nu gi bg bm sd  r218 q218) gX4_readsStatement_X4_here rfl dX4_readsStatement_218 (by decide +kernel) ⟨⟨rfl, rfl⟩, ⟨Nat.le_of_ble_eq_true rfl, Nat.le_of_ble_eq_true rfl⟩, Nat.zero_le _, Nat.zero_le _⟩ (JN.whole rfl) 0 rfl ⟨rfl, rfl⟩ rfl rfl (Nat.le_of_ble_eq_true rfl) (fun H locs hP hD hS => ?_)
          replace hP : va_P D vwCl (cM a cI ss mm im wa hi le ro re lm rm u149_pl u149_nu gi bg bm sd) H := hP
          replace hD : va_D A (cM a cI ss mm im wa hi le ro re lm rm u149_pl u149_nu gi bg bm sd) := hD
          refine lv_bipush (v := 59) hx hb dX4_readsStatement_221 (by decide) ?_
          refine lv_icmp_eq (tgt := 228) hx hb dX4_readsStatement_223 (by decide) (fun c223 => ?_) (fun c223 => ?_)
          · replace h := fx_ite_t c223 h
            refine lv_aload_n hx hb dX4_readsStatement_228 rfl (lv_at hl 2 rfl) ?_
            refine lv_dup hx hb dX4_readsStatement_229 rfl ?_
            refine va_get (D := D) (ci := 4) (v := .int u149_pl) (C := RX4) (T := TX4) (N := 16) hx hb hts i4 hown hK hP 0 rfl rfl 10 (by decide) f105 (fun _ h9 => h9) rfl dX4_readsStatement_230 ?_
            refine lv_iconst (v := 1) hx hb dX4_readsStatement_233 (by decide) ?_
            refine lv_iadd hx hb dX4_readsStatement_234 ?_
            refine va_put (D := D) (ci := 4) (v := .int (u149_pl + (1 : Int32))) (ty := .int) (C := RX4) (T := TX4) (N := 16) hx hb hts i4 tyX4 tyX4_ok nmX4 hown hK hP hD hS 0 rfl rfl 10 (by decide) f105 (fun _ h9 => h9) rfl (by decide +kernel) rfl rfl (Nat.le_of_ble_eq_true rfl) dX4_readsStatement_235 (fun H locs hP hD hS => ?_)
            replace hP : va_P D vwCl (cM a cI ss mm im wa hi le ro re lm rm (u149_pl + (1 : Int32)) u149_nu gi bg bm sd) H := hP
            replace hD : va_D A (cM a cI ss mm im wa hi le ro re lm rm (u149_pl + (1 : Int32)) u149_nu gi bg bm sd) := hD
            refine lv_iconst (v := 1) hx hb dX4_readsStatement_238 (by decide) ?_
            obtain ⟨rfl, rfl, rfl⟩ := rtv3 h
            exact rI hQ hx hb hr hlocks hAe hP hS rfl rfl dX4_readsStatement_239
          · replace h := fx_ite_f c223 h
            refine lv_iconst (v := 0) hx hb dX4_readsStatement_226 (by decide) ?_
            obtain ⟨rfl, rfl, rfl⟩ := rtv3 h
            exact rI hQ hx hb hr hlocks hAe hP hS rfl rfl dX4_readsStatement_227
  replace h := fx_ite_f s16_116 h
  by_cases s16_119 : r1 = 119
  · replace h := fx_ite_t s16_119 h
    refine lv_tableIn (tgt := 164) hx hb dX4_readsStatement_16 (by rw [s16_119]; decide) (by rw [s16_119]; decide) (off := 148) (by rw [s16_119]; rfl) (by decide) ?_
    refine lv_aload_n hx hb dX4_readsStatement_164 rfl (lv_at hl 1 rfl) ?_
    refine lv_iconst (v := 0) hx hb dX4_readsStatement_165 (by decide) ?_
    refine lv_iconst (v := 1) hx hb dX4_readsStatement_166 (by decide) ?_
    obtain ⟨r167, u167_pl, u167_nu, q167, h⟩ := bnd3_inv h
    refine kVI (n := 2) (As := [.int (0 : Int32), .int (1 : Int32)]) (rest := []) CF hl hK hP hD hS hA (c_X4_readsNumber l D cI a ss mm im wa hi le ro re lm rm (pl + (1 : Int32)) nu gi bg bm sd (0 : Int32) (1 : Int32) r167 u167_pl u167_nu q167) gX4_readsStatement_X4_readsNumber rfl dX4_readsStatement_167 (by decide +kernel) ⟨⟨rfl, rfl⟩, ⟨Nat.le_of_ble_eq_true rfl, Nat.le_of_ble_eq_true rfl⟩, Nat.zero_le _, Nat.zero_le _⟩ (JN.whole (w1 := (cM a cI ss mm im wa hi le ro re lm rm u167_pl u167_nu gi bg bm sd)) rfl) 0 rfl ⟨rfl, rfl⟩ rfl rfl (Nat.le_of_ble_eq_true rfl) (fun H locs hP hD hS => ?_)
    replace hP : va_P D vwCl (cM a cI ss mm im wa hi le ro re lm rm u167_pl u167_nu gi bg bm sd) H := hP
    replace hD : va_D A (cM a cI ss mm im wa hi le ro re lm rm u167_pl u167_nu gi bg bm sd) := hD
    refine lv_if_eq (tgt := 186) hx hb dX4_readsStatement_170 (by decide) (fun c170 => ?_) (fun c170 => ?_)
    · replace h := fx_ite_t c170 h
      refine lv_iconst (v := 0) hx hb dX4_readsStatement_186 (by decide) ?_
      refine lv_istore_n (lv' := [(2, .int (0 : Int32)), (1, .int r1), (0, .ref (a 0))]) hx hb dX4_readsStatement_187 rfl hl (by decide) rfl (fun ls hl => ?_)
      refine lv_goto (tgt := 213) hx hb dX4_readsStatement_188 (by decide) ?_
      refine lv_iload_n hx hb dX4_readsStatement_213 rfl (lv_at hl 0 rfl) ?_
      refine lv_if_eq (tgt := 226) hx hb dX4_readsStatement_214 (by decide) (fun _ => ?_) (fun c9 => absurd c9 (by decide))
      refine lv_iconst (v := 0) hx hb dX4_readsStatement_226 (by decide) ?_
      obtain ⟨rfl, rfl, rfl⟩ := rtv3 h
      exact rI hQ hx hb hr hlocks hAe hP hS rfl rfl dX4_readsStatement_227
    · replace h := fx_ite_f c170 h
      refine lv_aload_n hx hb dX4_readsStatement_173 rfl (lv_at hl 1 rfl) ?_
      refine lv_iconst (v := 1) hx hb dX4_readsStatement_174 (by decide) ?_
      refine lv_iconst (v := 1) hx hb dX4_readsStatement_175 (by decide) ?_
      obtain ⟨r176, u176_pl, u176_nu, q176, h⟩ := bnd3_inv h
      refine kVI (n := 2) (As := [.int (1 : Int32), .int (1 : Int32)]) (rest := []) CF hl hK hP hD hS hA (c_X4_readsNumber l D cI a ss mm im wa hi le ro re lm rm u167_pl u167_nu gi bg bm sd (1 : Int32) (1 : Int32) r176 u176_pl u176_nu q176) gX4_readsStatement_X4_readsNumber rfl dX4_readsStatement_176 (by decide +kernel) ⟨⟨rfl, rfl⟩, ⟨Nat.le_of_ble_eq_true rfl, Nat.le_of_ble_eq_true rfl⟩, Nat.zero_le _, Nat.zero_le _⟩ (JN.whole (w1 := (cM a cI ss mm im wa hi le ro re lm rm u176_pl u176_nu gi bg bm sd)) rfl) 0 rfl ⟨rfl, rfl⟩ rfl rfl (Nat.le_of_ble_eq_true rfl) (fun H locs hP hD hS => ?_)
      replace hP : va_P D vwCl (cM a cI ss mm im wa hi le ro re lm rm u176_pl u176_nu gi bg bm sd) H := hP
      replace hD : va_D A (cM a cI ss mm im wa hi le ro re lm rm u176_pl u176_nu gi bg bm sd) := hD
      refine lv_if_eq (tgt := 186) hx hb dX4_readsStatement_179 (by decide) (fun c179 => ?_) (fun c179 => ?_)
      · replace h := fx_ite_t c179 h
        refine lv_iconst (v := 0) hx hb dX4_readsStatement_186 (by decide) ?_
        refine lv_istore_n (lv' := [(2, .int (0 : Int32)), (1, .int r1), (0, .ref (a 0))]) hx hb dX4_readsStatement_187 rfl hl (by decide) rfl (fun ls hl => ?_)
        refine lv_goto (tgt := 213) hx hb dX4_readsStatement_188 (by decide) ?_
        refine lv_iload_n hx hb dX4_readsStatement_213 rfl (lv_at hl 0 rfl) ?_
        refine lv_if_eq (tgt := 226) hx hb dX4_readsStatement_214 (by decide) (fun _ => ?_) (fun c9 => absurd c9 (by decide))
        refine lv_iconst (v := 0) hx hb dX4_readsStatement_226 (by decide) ?_
        obtain ⟨rfl, rfl, rfl⟩ := rtv3 h
        exact rI hQ hx hb hr hlocks hAe hP hS rfl rfl dX4_readsStatement_227
      · replace h := fx_ite_f c179 h
        refine lv_iconst (v := 1) hx hb dX4_readsStatement_182 (by decide) ?_
        refine lv_goto (tgt := 187) hx hb dX4_readsStatement_183 (by decide) ?_
        refine lv_istore_n (lv' := [(2, .int (1 : Int32)), (1, .int r1), (0, .ref (a 0))]) hx hb dX4_readsStatement_187 rfl hl (by decide) rfl (fun ls hl => ?_)
        refine lv_goto (tgt := 213) hx hb dX4_readsStatement_188 (by decide) ?_
        refine lv_iload_n hx hb dX4_readsStatement_213 rfl (lv_at hl 0 rfl) ?_
        refine lv_if_eq (tgt := 226) hx hb dX4_readsStatement_214 (by decide) (fun c9 => absurd c9 (by decide)) (fun _ => ?_)
        refine lv_aload_n hx hb dX4_readsStatement_217 rfl (lv_at hl 2 rfl) ?_
        obtain ⟨r218, q218, h⟩ := bnd1_inv h
        refine kVI (n := 0) (As := []) (rest := []) CF hl hK hP hD hS hA (c_X4_here l D cI a ss mm im wa hi le ro re lm rm u176_pl u176_nu gi bg bm sd  r218 q218) gX4_readsStatement_X4_here rfl dX4_readsStatement_218 (by decide +kernel) ⟨⟨rfl, rfl⟩, ⟨Nat.le_of_ble_eq_true rfl, Nat.le_of_ble_eq_true rfl⟩, Nat.zero_le _, Nat.zero_le _⟩ (JN.whole rfl) 0 rfl ⟨rfl, rfl⟩ rfl rfl (Nat.le_of_ble_eq_true rfl) (fun H locs hP hD hS => ?_)
        replace hP : va_P D vwCl (cM a cI ss mm im wa hi le ro re lm rm u176_pl u176_nu gi bg bm sd) H := hP
        replace hD : va_D A (cM a cI ss mm im wa hi le ro re lm rm u176_pl u176_nu gi bg bm sd) := hD
        refine lv_bipush (v := 59) hx hb dX4_readsStatement_221 (by decide) ?_
        refine lv_icmp_eq (tgt := 228) hx hb dX4_readsStatement_223 (by decide) (fun c223 => ?_) (fun c223 => ?_)
        · replace h := fx_ite_t c223 h
          refine lv_aload_n hx hb dX4_readsStatement_228 rfl (lv_at hl 2 rfl) ?_
          refine lv_dup hx hb dX4_readsStatement_229 rfl ?_
          refine va_get (D := D) (ci := 4) (v := .int u176_pl) (C := RX4) (T := TX4) (N := 16) hx hb hts i4 hown hK hP 0 rfl rfl 10 (by decide) f105 (fun _ h9 => h9) rfl dX4_readsStatement_230 ?_
          refine lv_iconst (v := 1) hx hb dX4_readsStatement_233 (by decide) ?_
          refine lv_iadd hx hb dX4_readsStatement_234 ?_
          refine va_put (D := D) (ci := 4) (v := .int (u176_pl + (1 : Int32))) (ty := .int) (C := RX4) (T := TX4) (N := 16) hx hb hts i4 tyX4 tyX4_ok nmX4 hown hK hP hD hS 0 rfl rfl 10 (by decide) f105 (fun _ h9 => h9) rfl (by decide +kernel) rfl rfl (Nat.le_of_ble_eq_true rfl) dX4_readsStatement_235 (fun H locs hP hD hS => ?_)
          replace hP : va_P D vwCl (cM a cI ss mm im wa hi le ro re lm rm (u176_pl + (1 : Int32)) u176_nu gi bg bm sd) H := hP
          replace hD : va_D A (cM a cI ss mm im wa hi le ro re lm rm (u176_pl + (1 : Int32)) u176_nu gi bg bm sd) := hD
          refine lv_iconst (v := 1) hx hb dX4_readsStatement_238 (by decide) ?_
          obtain ⟨rfl, rfl, rfl⟩ := rtv3 h
          exact rI hQ hx hb hr hlocks hAe hP hS rfl rfl dX4_readsStatement_239
        · replace h := fx_ite_f c223 h
          refine lv_iconst (v := 0) hx hb dX4_readsStatement_226 (by decide) ?_
          obtain ⟨rfl, rfl, rfl⟩ := rtv3 h
          exact rI hQ hx hb hr hlocks hAe hP hS rfl rfl dX4_readsStatement_227
  replace h := fx_ite_f s16_119 h
  have hdf16 : ∀ (kk : W p l e { frames := 2, cells := 0, slots := 0, locals := 45 } s m args below meth c H locs 0 0 Q (F0 m 201 ls [])), W p l e { frames := 2, cells := 0, slots := 0, locals := 45 } s m args below meth c H locs 0 0 Q (F0 m 16 ls [.int r1]) := by
    intro kk
    by_cases hr16 : Int32.toInt r1 < 98 ∨ 119 < Int32.toInt r1
    · exact lv_tableOut (tgt := 201) hx hb dX4_readsStatement_16 hr16 (by decide) kk
    · refine lv_tableIn (tgt := 201) hx hb dX4_readsStatement_16 (by omega) (by omega) (off := 185) ?_ (by decide) kk
      have a_s16_98 : Int32.toInt r1 ≠ 98 := fx_toInt_ne s16_98; have a_s16_100 : Int32.toInt r1 ≠ 100 := fx_toInt_ne s16_100; have a_s16_110 : Int32.toInt r1 ≠ 110 := fx_toInt_ne s16_110; have a_s16_112 : Int32.toInt r1 ≠ 112 := fx_toInt_ne s16_112; have a_s16_115 : Int32.toInt r1 ≠ 115 := fx_toInt_ne s16_115; have a_s16_116 : Int32.toInt r1 ≠ 116 := fx_toInt_ne s16_116; have a_s16_119 : Int32.toInt r1 ≠ 119 := fx_toInt_ne s16_119
      have e9 : (Int32.toInt r1 - 98).toNat = 1 ∨ (Int32.toInt r1 - 98).toNat = 3 ∨ (Int32.toInt r1 - 98).toNat = 4 ∨ (Int32.toInt r1 - 98).toNat = 5 ∨ (Int32.toInt r1 - 98).toNat = 6 ∨ (Int32.toInt r1 - 98).toNat = 7 ∨ (Int32.toInt r1 - 98).toNat = 8 ∨ (Int32.toInt r1 - 98).toNat = 9 ∨ (Int32.toInt r1 - 98).toNat = 10 ∨ (Int32.toInt r1 - 98).toNat = 11 ∨ (Int32.toInt r1 - 98).toNat = 13 ∨ (Int32.toInt r1 - 98).toNat = 15 ∨ (Int32.toInt r1 - 98).toNat = 16 ∨ (Int32.toInt r1 - 98).toNat = 19 ∨ (Int32.toInt r1 - 98).toNat = 20 := by omega
      rcases e9 with e9 | e9 | e9 | e9 | e9 | e9 | e9 | e9 | e9 | e9 | e9 | e9 | e9 | e9 | e9 <;> rw [e9] <;> rfl
  refine hdf16 ?_
  refine lv_aload_n hx hb dX4_readsStatement_201 rfl (lv_at hl 1 rfl) ?_
  refine lv_dup hx hb dX4_readsStatement_202 rfl ?_
  refine va_get (D := D) (ci := 4) (v := .int (pl + (1 : Int32))) (C := RX4) (T := TX4) (N := 16) hx hb hts i4 hown hK hP 0 rfl rfl 10 (by decide) f105 (fun _ h9 => h9) rfl dX4_readsStatement_203 ?_
  refine lv_iconst (v := 1) hx hb dX4_readsStatement_206 (by decide) ?_
  refine lv_isub hx hb dX4_readsStatement_207 ?_
  refine va_put (D := D) (ci := 4) (v := .int ((pl + (1 : Int32)) - (1 : Int32))) (ty := .int) (C := RX4) (T := TX4) (N := 16) hx hb hts i4 tyX4 tyX4_ok nmX4 hown hK hP hD hS 0 rfl rfl 10 (by decide) f105 (fun _ h9 => h9) rfl (by decide +kernel) rfl rfl (Nat.le_of_ble_eq_true rfl) dX4_readsStatement_208 (fun H locs hP hD hS => ?_)
  replace hP : va_P D vwCl (cM a cI ss mm im wa hi le ro re lm rm ((pl + (1 : Int32)) - (1 : Int32)) nu gi bg bm sd) H := hP
  replace hD : va_D A (cM a cI ss mm im wa hi le ro re lm rm ((pl + (1 : Int32)) - (1 : Int32)) nu gi bg bm sd) := hD
  refine lv_iconst (v := 0) hx hb dX4_readsStatement_211 (by decide) ?_
  obtain ⟨rfl, rfl, rfl⟩ := rtv3 h
  exact rI hQ hx hb hr hlocks hAe hP hS rfl rfl dX4_readsStatement_212
/-! X4_addsPerson -/
set_option maxHeartbeats 4000000 in
set_option maxRecDepth 100000 in
theorem c_X4_addsPerson (l : Launch) (D : va_G) (cI : ClassId) (a : Nat → Nat) (ss : (Nat → Int32)) (mm : (Nat → Int32)) (im : (Nat → Int32)) (wa : (Nat → Int32)) (hi : Int32) (le : (Nat → Int32)) (ro : (Nat → Int32)) (re : (Nat → Int32)) (lm : Int32) (rm : Int32) (pl : Int32) (nu : (Nat → Int32)) (gi : (Nat → Int32)) (bg : (Nat → Int32)) (bm : Int32) (sd : Int32) (p1 : Int32) (res : Int32) (u_ss : (Nat → Int32)) (h : M_X4_addsPerson ss p1 = some (res, u_ss)) : mI l yX4_addsPerson wsX4_addsPerson { frames := 1, cells := 0, slots := 0, locals := 20 } D cI [.ref (a 0), .int p1] (cM a cI ss mm im wa hi le ro re lm rm pl nu gi bg bm sd) (cM a cI u_ss mm im wa hi le ro re lm rm pl nu gi bg bm sd) res := by
  intro sz
  refine mStart (cc := cX4_addsPerson) (maxL := 2) (ret := (some .boolean)) (own := RX4) (by decide) rfl rfl (Nat.le_of_ble_eq_true rfl) (lv := [(0, .ref (a 0)), (1, .int p1)]) rfl ?_
  intro p e s m args below meth c A ls Q H locs CF hr hlocks hK hP hD hS hA hAe hl hQ
  obtain ⟨hx, hb, hml, hown, hts⟩ := id CF
  have f9 := hts (.fieldLink RX4 9 "MendAnothersBreakingModel" "s" "[I") (List.mem_of_getElem? (i := 1) rfl)
  have i4 : ∀ w ∈ wsX40, w ∈ wsX4_addsPerson := fun w h => List.mem_cons_of_mem _ (List.mem_append_right _ h)
  unfold M_X4_addsPerson at h
  refine lv_aload_n hx hb dX4_addsPerson_0 rfl (lv_at hl 0 rfl) ?_
  refine va_get (D := D) (ci := 4) (v := .ref (a 1)) (C := RX4) (T := TX4) (N := 16) hx hb hts i4 hown hK hP 0 rfl rfl 0 (by decide) f9 (fun _ h9 => h9) rfl dX4_addsPerson_1 ?_
  refine lv_iconst (v := 0) hx hb dX4_addsPerson_4 (by decide) ?_
  refine ald (n := 61) (f := ss) (k := 0) hx hb hK hP 1 0 rfl rfl (fx_lit rfl) rfl dX4_addsPerson_5 ?_
  refine lv_bipush (v := 6) hx hb dX4_addsPerson_6 (by decide) ?_
  refine lv_icmp_ne (tgt := 13) hx hb dX4_addsPerson_8 (by decide) (fun c8 => ?_) (fun c8 => ?_)
  · replace h := fx_ite_f c8 h
    refine lv_aload_n hx hb dX4_addsPerson_13 rfl (lv_at hl 0 rfl) ?_
    refine va_get (D := D) (ci := 4) (v := .ref (a 1)) (C := RX4) (T := TX4) (N := 16) hx hb hts i4 hown hK hP 0 rfl rfl 0 (by decide) f9 (fun _ h9 => h9) rfl dX4_addsPerson_14 ?_
    refine lv_aload_n hx hb dX4_addsPerson_17 rfl (lv_at hl 0 rfl) ?_
    refine va_get (D := D) (ci := 4) (v := .ref (a 1)) (C := RX4) (T := TX4) (N := 16) hx hb hts i4 hown hK hP 0 rfl rfl 0 (by decide) f9 (fun _ h9 => h9) rfl dX4_addsPerson_18 ?_
    refine lv_iconst (v := 0) hx hb dX4_addsPerson_21 (by decide) ?_
    refine ald (n := 61) (f := ss) (k := 0) hx hb hK hP 1 0 rfl rfl (fx_lit rfl) rfl dX4_addsPerson_22 ?_
    obtain ⟨r23, q23, h⟩ := bnd1_inv h
    refine kSI (n := 1) (As := [.int (ss 0)]) (rest := [.ref (a 1)]) CF hl hK hP hD hS hA (c_X4_ofP l D cI   (ss 0) r23 q23) gX4_addsPerson_X4_ofP rfl dX4_addsPerson_23 (by decide +kernel) ⟨⟨rfl, rfl⟩, ⟨Nat.le_of_ble_eq_true rfl, Nat.le_of_ble_eq_true rfl⟩, Nat.zero_le _, Nat.zero_le _⟩ (JN.ro [] rfl rfl) rfl rfl (Nat.le_of_ble_eq_true rfl) (fun H locs hP hD hS => ?_)
    refine lv_iconst (v := 0) hx hb dX4_addsPerson_26 (by decide) ?_
    refine lv_iadd hx hb dX4_addsPerson_27 ?_
    refine lv_iload_n hx hb dX4_addsPerson_28 rfl (lv_at hl 1 rfl) ?_
    obtain ⟨g29, h⟩ := chk_inv h
    refine va_iast (n := 61) (f := ss) hx hb hK hP hD hS 1 0 rfl rfl g29 dX4_addsPerson_29 (fun H locs hP hD hS => ?_)
    replace hP : va_P D vwCl (cM a cI (upd ss (Int32.toNatClampNeg (r23 + (0 : Int32))) p1) mm im wa hi le ro re lm rm pl nu gi bg bm sd) H := hP
    replace hD : va_D A (cM a cI (upd ss (Int32.toNatClampNeg (r23 + (0 : Int32))) p1) mm im wa hi le ro re lm rm pl nu gi bg bm sd) := hD
    refine lv_aload_n hx hb dX4_addsPerson_30 rfl (lv_at hl 0 rfl) ?_
    refine va_get (D := D) (ci := 4) (v := .ref (a 1)) (C := RX4) (T := TX4) (N := 16) hx hb hts i4 hown hK hP 0 rfl rfl 0 (by decide) f9 (fun _ h9 => h9) rfl dX4_addsPerson_31 ?_
    refine lv_aload_n hx hb dX4_addsPerson_34 rfl (lv_at hl 0 rfl) ?_
    refine va_get (D := D) (ci := 4) (v := .ref (a 1)) (C := RX4) (T := TX4) (N := 16) hx hb hts i4 hown hK hP 0 rfl rfl 0 (by decide) f9 (fun _ h9 => h9) rfl dX4_addsPerson_35 ?_
    refine lv_iconst (v := 0) hx hb dX4_addsPerson_38 (by decide) ?_
    refine ald (n := 61) (f := (upd ss (Int32.toNatClampNeg (r23 + (0 : Int32))) p1)) (k := 0) hx hb hK hP 1 0 rfl rfl (fx_lit rfl) rfl dX4_addsPerson_39 ?_
    obtain ⟨r40, q40, h⟩ := bnd1_inv h
    refine kSI (n := 1) (As := [.int ((upd ss (Int32.toNatClampNeg (r23 + (0 : Int32))) p1) 0)]) (rest := [.ref (a 1)]) CF hl hK hP hD hS hA (c_X4_ofP l D cI   ((upd ss (Int32.toNatClampNeg (r23 + (0 : Int32))) p1) 0) r40 q40) gX4_addsPerson_X4_ofP rfl dX4_addsPerson_40 (by decide +kernel) ⟨⟨rfl, rfl⟩, ⟨Nat.le_of_ble_eq_true rfl, Nat.le_of_ble_eq_true rfl⟩, Nat.zero_le _, Nat.zero_le _⟩ (JN.ro [] rfl rfl) rfl rfl (Nat.le_of_ble_eq_true rfl) (fun H locs hP hD hS => ?_)
    refine lv_iconst (v := 1) hx hb dX4_addsPerson_43 (by decide) ?_
    refine lv_iadd hx hb dX4_addsPerson_44 ?_
    refine lv_iconst (v := 0) hx hb dX4_addsPerson_45 (by decide) ?_
    obtain ⟨g46, h⟩ := chk_inv h
    refine va_iast (n := 61) (f := (upd ss (Int32.toNatClampNeg (r23 + (0 : Int32))) p1)) hx hb hK hP hD hS 1 0 rfl rfl g46 dX4_addsPerson_46 (fun H locs hP hD hS => ?_)
    replace hP : va_P D vwCl (cM a cI (upd (upd ss (Int32.toNatClampNeg (r23 + (0 : Int32))) p1) (Int32.toNatClampNeg (r40 + (1 : Int32))) (0 : Int32)) mm im wa hi le ro re lm rm pl nu gi bg bm sd) H := hP
    replace hD : va_D A (cM a cI (upd (upd ss (Int32.toNatClampNeg (r23 + (0 : Int32))) p1) (Int32.toNatClampNeg (r40 + (1 : Int32))) (0 : Int32)) mm im wa hi le ro re lm rm pl nu gi bg bm sd) := hD
    refine lv_aload_n hx hb dX4_addsPerson_47 rfl (lv_at hl 0 rfl) ?_
    refine va_get (D := D) (ci := 4) (v := .ref (a 1)) (C := RX4) (T := TX4) (N := 16) hx hb hts i4 hown hK hP 0 rfl rfl 0 (by decide) f9 (fun _ h9 => h9) rfl dX4_addsPerson_48 ?_
    refine lv_iconst (v := 0) hx hb dX4_addsPerson_51 (by decide) ?_
    refine lv_dup2_11 hx hb dX4_addsPerson_52 rfl rfl ?_
    refine ald (n := 61) (f := (upd (upd ss (Int32.toNatClampNeg (r23 + (0 : Int32))) p1) (Int32.toNatClampNeg (r40 + (1 : Int32))) (0 : Int32))) (k := 0) hx hb hK hP 1 0 rfl rfl (fx_lit rfl) rfl dX4_addsPerson_53 ?_
    refine lv_iconst (v := 1) hx hb dX4_addsPerson_54 (by decide) ?_
    refine lv_iadd hx hb dX4_addsPerson_55 ?_
    refine ast (n := 61) (f := (upd (upd ss (Int32.toNatClampNeg (r23 + (0 : Int32))) p1) (Int32.toNatClampNeg (r40 + (1 : Int32))) (0 : Int32))) (k := 0) hx hb hK hP hD hS 1 0 rfl rfl (fx_lit rfl) rfl dX4_addsPerson_56 (fun H locs hP hD hS => ?_)
    replace hP : va_P D vwCl (cM a cI (upd (upd (upd ss (Int32.toNatClampNeg (r23 + (0 : Int32))) p1) (Int32.toNatClampNeg (r40 + (1 : Int32))) (0 : Int32)) 0 (((upd (upd ss (Int32.toNatClampNeg (r23 + (0 : Int32))) p1) (Int32.toNatClampNeg (r40 + (1 : Int32))) (0 : Int32)) 0) + (1 : Int32))) mm im wa hi le ro re lm rm pl nu gi bg bm sd) H := hP
    replace hD : va_D A (cM a cI (upd (upd (upd ss (Int32.toNatClampNeg (r23 + (0 : Int32))) p1) (Int32.toNatClampNeg (r40 + (1 : Int32))) (0 : Int32)) 0 (((upd (upd ss (Int32.toNatClampNeg (r23 + (0 : Int32))) p1) (Int32.toNatClampNeg (r40 + (1 : Int32))) (0 : Int32)) 0) + (1 : Int32))) mm im wa hi le ro re lm rm pl nu gi bg bm sd) := hD
    refine lv_iconst (v := 1) hx hb dX4_addsPerson_57 (by decide) ?_
    obtain ⟨rfl, rfl⟩ := rtv2 h
    exact rI hQ hx hb hr hlocks hAe hP hS rfl rfl dX4_addsPerson_58
  · replace h := fx_ite_t c8 h
    refine lv_iconst (v := 0) hx hb dX4_addsPerson_11 (by decide) ?_
    obtain ⟨rfl, rfl⟩ := rtv2 h
    exact rI hQ hx hb hr hlocks hAe hP hS rfl rfl dX4_addsPerson_12
