/-! X4_brokeOne -/
set_option maxHeartbeats 4000000 in
set_option maxRecDepth 100000 in
theorem c_X4_brokeOne (l : Launch) (D : va_G) (cI : ClassId) (a : Nat → Nat) (ss : (Nat → Int32)) (mm : (Nat → Int32)) (im : (Nat → Int32)) (wa : (Nat → Int32)) (hi : Int32) (le : (Nat → Int32)) (ro : (Nat → Int32)) (re : (Nat → Int32)) (lm : Int32) (rm : Int32) (pl : Int32) (nu : (Nat → Int32)) (gi : (Nat → Int32)) (bg : (Nat → Int32)) (bm : Int32) (sd : Int32) (p1 : Int32) (p2 : Int32) (res : Int32) (h : M_X4_brokeOne ss p1 p2 = some res) : mI l yX4_brokeOne wsX4_brokeOne { frames := 1, cells := 0, slots := 0, locals := 20 } D cI [.ref (a 0), .int p1, .int p2] (cM a cI ss mm im wa hi le ro re lm rm pl nu gi bg bm sd) (cM a cI ss mm im wa hi le ro re lm rm pl nu gi bg bm sd) res := by
  intro sz
  refine mStart (cc := cX4_brokeOne) (maxL := 4) (ret := (some .boolean)) (own := RX4) (by decide) rfl rfl (Nat.le_of_ble_eq_true rfl) (lv := [(0, .ref (a 0)), (1, .int p1), (2, .int p2)]) rfl ?_
  intro p e s m args below meth c A ls Q H locs CF hr hlocks hK hP hD hS hA hAe hl hQ
  obtain ⟨hx, hb, hml, hown, hts⟩ := id CF
  have f9 := hts (.fieldLink RX4 9 "MendAnothersBreakingModel" "s" "[I") (List.mem_of_getElem? (i := 1) rfl)
  have i4 : ∀ w ∈ wsX40, w ∈ wsX4_brokeOne := fun w h => List.mem_cons_of_mem _ (List.mem_append_right _ h)
  have L2 : ∀ (n : Nat) (x1 : Int32) (x2 : Int32) (x3 : Int32), fuel (fun _ => none) (B_X4_brokeOne_2 x1 x2 ss) n x3 = some res → 
      ∀ (H : Heap) (locs : List Loc) (ls : Array Slot), va_P D vwCl (cM a cI ss mm im wa hi le ro re lm rm pl nu gi bg bm sd) H → va_D A (cM a cI ss mm im wa hi le ro re lm rm pl nu gi bg bm sd) → va_S A s.heap H locs → lv_has ls 4 [(0, .ref (a 0)), (1, .int x1), (2, .int x2), (3, .int x3)] → W p l e { frames := 1, cells := 0, slots := 0, locals := 20 } s m args below meth c H locs 0 0 Q (F0 m 2 ls []) := by
    intro n
    induction n with
    | zero =>
      intro x1 x2 x3 h
      exact nomatch (show (none : Option (Int32)) = some res from h)
    | succ n ih =>
      intro x1 x2 x3 h  H locs ls hP hD hS hl
      replace h : B_X4_brokeOne_2 x1 x2 ss (fuel (fun _ => none) (B_X4_brokeOne_2 x1 x2 ss) n) x3 = some res := h
      unfold B_X4_brokeOne_2 at h
      refine lv_iload_n hx hb dX4_brokeOne_2 rfl (lv_at hl 3 rfl) ?_
      refine lv_aload_n hx hb dX4_brokeOne_3 rfl (lv_at hl 0 rfl) ?_
      refine va_get (D := D) (ci := 4) (v := .ref (a 1)) (C := RX4) (T := TX4) (N := 16) hx hb hts i4 hown hK hP 0 rfl rfl 0 (by decide) f9 (fun _ h9 => h9) rfl dX4_brokeOne_4 ?_
      refine lv_iconst (v := 1) hx hb dX4_brokeOne_7 (by decide) ?_
      refine ald (n := 61) (f := ss) (k := 1) hx hb hK hP 1 0 rfl rfl (fx_lit rfl) rfl dX4_brokeOne_8 ?_
      refine lv_icmp_ge (tgt := 50) hx hb dX4_brokeOne_9 (by decide) (fun c9 => ?_) (fun c9 => ?_)
      · replace h := fx_ite_t c9 h
        refine lv_iconst (v := 0) hx hb dX4_brokeOne_50 (by decide) ?_
        obtain rfl := rtv1 h
        exact rI hQ hx hb hr hlocks hAe hP hS rfl rfl dX4_brokeOne_51
      · replace h := fx_ite_f c9 h
        refine lv_aload_n hx hb dX4_brokeOne_12 rfl (lv_at hl 0 rfl) ?_
        refine va_get (D := D) (ci := 4) (v := .ref (a 1)) (C := RX4) (T := TX4) (N := 16) hx hb hts i4 hown hK hP 0 rfl rfl 0 (by decide) f9 (fun _ h9 => h9) rfl dX4_brokeOne_13 ?_
        refine lv_iload_n hx hb dX4_brokeOne_16 rfl (lv_at hl 3 rfl) ?_
        obtain ⟨r17, q17, h⟩ := bnd1_inv h
        refine kSI (n := 1) (As := [.int x3]) (rest := [.ref (a 1)]) CF hl hK hP hD hS hA (c_X4_ofT l D cI   x3 r17 q17) gX4_brokeOne_X4_ofT rfl dX4_brokeOne_17 (by decide +kernel) ⟨⟨rfl, rfl⟩, ⟨Nat.le_of_ble_eq_true rfl, Nat.le_of_ble_eq_true rfl⟩, Nat.zero_le _, Nat.zero_le _⟩ (JN.ro [] rfl rfl) rfl rfl (Nat.le_of_ble_eq_true rfl) (fun H locs hP hD hS => ?_)
        refine lv_iconst (v := 2) hx hb dX4_brokeOne_20 (by decide) ?_
        refine lv_iadd hx hb dX4_brokeOne_21 ?_
        obtain ⟨g22, h⟩ := chk_inv h
        refine va_iald (n := 61) (f := ss) hx hb hK hP 1 0 rfl rfl g22 dX4_brokeOne_22 ?_
        refine lv_iload_n hx hb dX4_brokeOne_23 rfl (lv_at hl 2 rfl) ?_
        refine lv_icmp_ne (tgt := 44) hx hb dX4_brokeOne_24 (by decide) (fun c24 => ?_) (fun c24 => ?_)
        · replace h := fx_ite_f c24 h
          refine lv_iinc (v := (x3 + 1)) (lv' := [(3, .int (x3 + 1)), (0, .ref (a 0)), (1, .int x1), (2, .int x2)]) hx hb dX4_brokeOne_44 hl (k := 3) rfl (by first | rfl | decide) (by decide) rfl (fun ls hl => ?_)
          refine lv_goto (tgt := 2) hx hb dX4_brokeOne_47 (by decide) ?_
          exact ih _ _ _ h  _ _ _ hP hD hS (lv_sub hl [1, 2, 3, 0] rfl)
        · replace h := fx_ite_t c24 h
          refine lv_aload_n hx hb dX4_brokeOne_27 rfl (lv_at hl 0 rfl) ?_
          refine va_get (D := D) (ci := 4) (v := .ref (a 1)) (C := RX4) (T := TX4) (N := 16) hx hb hts i4 hown hK hP 0 rfl rfl 0 (by decide) f9 (fun _ h9 => h9) rfl dX4_brokeOne_28 ?_
          refine lv_iload_n hx hb dX4_brokeOne_31 rfl (lv_at hl 3 rfl) ?_
          obtain ⟨r32, q32, h⟩ := bnd1_inv h
          refine kSI (n := 1) (As := [.int x3]) (rest := [.ref (a 1)]) CF hl hK hP hD hS hA (c_X4_ofT l D cI   x3 r32 q32) gX4_brokeOne_X4_ofT rfl dX4_brokeOne_32 (by decide +kernel) ⟨⟨rfl, rfl⟩, ⟨Nat.le_of_ble_eq_true rfl, Nat.le_of_ble_eq_true rfl⟩, Nat.zero_le _, Nat.zero_le _⟩ (JN.ro [] rfl rfl) rfl rfl (Nat.le_of_ble_eq_true rfl) (fun H locs hP hD hS => ?_)
          refine lv_iconst (v := 4) hx hb dX4_brokeOne_35 (by decide) ?_
          refine lv_iadd hx hb dX4_brokeOne_36 ?_
          obtain ⟨g37, h⟩ := chk_inv h
          refine va_iald (n := 61) (f := ss) hx hb hK hP 1 0 rfl rfl g37 dX4_brokeOne_37 ?_
          refine lv_iload_n hx hb dX4_brokeOne_38 rfl (lv_at hl 1 rfl) ?_
          refine lv_icmp_ne (tgt := 44) hx hb dX4_brokeOne_39 (by decide) (fun c39 => ?_) (fun c39 => ?_)
          · replace h := fx_ite_f c39 h
            refine lv_iinc (v := (x3 + 1)) (lv' := [(3, .int (x3 + 1)), (0, .ref (a 0)), (1, .int x1), (2, .int x2)]) hx hb dX4_brokeOne_44 hl (k := 3) rfl (by first | rfl | decide) (by decide) rfl (fun ls hl => ?_)
            refine lv_goto (tgt := 2) hx hb dX4_brokeOne_47 (by decide) ?_
            exact ih _ _ _ h  _ _ _ hP hD hS (lv_sub hl [1, 2, 3, 0] rfl)
          · replace h := fx_ite_t c39 h
            refine lv_iconst (v := 1) hx hb dX4_brokeOne_42 (by decide) ?_
            obtain rfl := rtv1 h
            exact rI hQ hx hb hr hlocks hAe hP hS rfl rfl dX4_brokeOne_43
  unfold M_X4_brokeOne at h
  refine lv_iconst (v := 0) hx hb dX4_brokeOne_0 (by decide) ?_
  refine lv_istore_n (lv' := [(3, .int (0 : Int32)), (0, .ref (a 0)), (1, .int p1), (2, .int p2)]) hx hb dX4_brokeOne_1 rfl hl (by decide) rfl (fun ls hl => ?_)
  exact L2 FU _ _ _ h  _ _ _ hP hD hS (lv_sub hl [1, 2, 3, 0] rfl)
/-! X4_arrangedTwos -/
set_option maxHeartbeats 4000000 in
set_option maxRecDepth 100000 in
theorem c_X4_arrangedTwos (l : Launch) (D : va_G) (cI : ClassId) (a : Nat → Nat) (ss : (Nat → Int32)) (mm : (Nat → Int32)) (im : (Nat → Int32)) (wa : (Nat → Int32)) (hi : Int32) (le : (Nat → Int32)) (ro : (Nat → Int32)) (re : (Nat → Int32)) (lm : Int32) (rm : Int32) (pl : Int32) (nu : (Nat → Int32)) (gi : (Nat → Int32)) (bg : (Nat → Int32)) (bm : Int32) (sd : Int32)  (res : Int32) (h : M_X4_arrangedTwos ss = some res) : mI l yX4_arrangedTwos wsX4_arrangedTwos { frames := 2, cells := 0, slots := 0, locals := 43 } D cI [.ref (a 0)] (cM a cI ss mm im wa hi le ro re lm rm pl nu gi bg bm sd) (cM a cI ss mm im wa hi le ro re lm rm pl nu gi bg bm sd) res := by
  intro sz
  refine mStart (cc := cX4_arrangedTwos) (maxL := 4) (ret := (some .int)) (own := RX4) (by decide) rfl rfl (Nat.le_of_ble_eq_true rfl) (lv := [(0, .ref (a 0))]) rfl ?_
  intro p e s m args below meth c A ls Q H locs CF hr hlocks hK hP hD hS hA hAe hl hQ
  obtain ⟨hx, hb, hml, hown, hts⟩ := id CF
  have f9 := hts (.fieldLink RX4 9 "MendAnothersBreakingModel" "s" "[I") (List.mem_of_getElem? (i := 1) rfl)
  have i4 : ∀ w ∈ wsX40, w ∈ wsX4_arrangedTwos := fun w h => List.mem_cons_of_mem _ (List.mem_append_right _ h)
  have L18 : ∀ (n : Nat) (x2 : Int32) (k60 : Int32 → Option (Int32)) (x1 : Int32) (x3 : Int32), fuel (fun _ _ => none) (B_X4_arrangedTwos_18 x2 ss k60) n x1 x3 = some res → 
      (∀ (x1 : Int32), k60 x1 = some res → ∀ (H : Heap) (locs : List Loc) (ls : Array Slot), va_P D vwCl (cM a cI ss mm im wa hi le ro re lm rm pl nu gi bg bm sd) H → va_D A (cM a cI ss mm im wa hi le ro re lm rm pl nu gi bg bm sd) → va_S A s.heap H locs → lv_has ls 4 [(0, .ref (a 0)), (1, .int x1), (2, .int x2)] → W p l e { frames := 2, cells := 0, slots := 0, locals := 43 } s m args below meth c H locs 0 0 Q (F0 m 60 ls [])) → 
      ∀ (H : Heap) (locs : List Loc) (ls : Array Slot), va_P D vwCl (cM a cI ss mm im wa hi le ro re lm rm pl nu gi bg bm sd) H → va_D A (cM a cI ss mm im wa hi le ro re lm rm pl nu gi bg bm sd) → va_S A s.heap H locs → lv_has ls 4 [(0, .ref (a 0)), (1, .int x1), (2, .int x2), (3, .int x3)] → W p l e { frames := 2, cells := 0, slots := 0, locals := 43 } s m args below meth c H locs 0 0 Q (F0 m 18 ls []) := by
    intro n
    induction n with
    | zero =>
      intro x2 k60 x1 x3 h
      exact nomatch (show (none : Option (Int32)) = some res from h)
    | succ n ih =>
      intro x2 k60 x1 x3 h hk60 H locs ls hP hD hS hl
      replace h : B_X4_arrangedTwos_18 x2 ss k60 (fuel (fun _ _ => none) (B_X4_arrangedTwos_18 x2 ss k60) n) x1 x3 = some res := h
      unfold B_X4_arrangedTwos_18 at h
      refine lv_iload_n hx hb dX4_arrangedTwos_18 rfl (lv_at hl 3 rfl) ?_
      refine lv_aload_n hx hb dX4_arrangedTwos_19 rfl (lv_at hl 0 rfl) ?_
      refine va_get (D := D) (ci := 4) (v := .ref (a 1)) (C := RX4) (T := TX4) (N := 16) hx hb hts i4 hown hK hP 0 rfl rfl 0 (by decide) f9 (fun _ h9 => h9) rfl dX4_arrangedTwos_20 ?_
      refine lv_iconst (v := 0) hx hb dX4_arrangedTwos_23 (by decide) ?_
      refine ald (n := 61) (f := ss) (k := 0) hx hb hK hP 1 0 rfl rfl (fx_lit rfl) rfl dX4_arrangedTwos_24 ?_
      refine lv_icmp_ge (tgt := 60) hx hb dX4_arrangedTwos_25 (by decide) (fun c25 => ?_) (fun c25 => ?_)
      · replace h := fx_ite_t c25 h
        exact hk60 _ h _ _ _ hP hD hS (lv_sub hl [0, 1, 2] rfl)
      · replace h := fx_ite_f c25 h
        refine lv_iload_n hx hb dX4_arrangedTwos_28 rfl (lv_at hl 1 rfl) ?_
        refine lv_aload_n hx hb dX4_arrangedTwos_29 rfl (lv_at hl 0 rfl) ?_
        refine lv_iload_n hx hb dX4_arrangedTwos_30 rfl (lv_at hl 2 rfl) ?_
        refine lv_iload_n hx hb dX4_arrangedTwos_31 rfl (lv_at hl 3 rfl) ?_
        obtain ⟨r32, q32, h⟩ := bnd1_inv h
        refine kVI (n := 2) (As := [.int x2, .int x3]) (rest := [.int x1]) CF hl hK hP hD hS hA (c_X4_brokeOne l D cI a ss mm im wa hi le ro re lm rm pl nu gi bg bm sd x2 x3 r32 q32) gX4_arrangedTwos_X4_brokeOne rfl dX4_arrangedTwos_32 (by decide +kernel) ⟨⟨rfl, rfl⟩, ⟨Nat.le_of_ble_eq_true rfl, Nat.le_of_ble_eq_true rfl⟩, Nat.zero_le _, Nat.zero_le _⟩ (JN.whole rfl) 0 rfl ⟨rfl, rfl⟩ rfl rfl (Nat.le_of_ble_eq_true rfl) (fun H locs hP hD hS => ?_)
        replace hP : va_P D vwCl (cM a cI ss mm im wa hi le ro re lm rm pl nu gi bg bm sd) H := hP
        replace hD : va_D A (cM a cI ss mm im wa hi le ro re lm rm pl nu gi bg bm sd) := hD
        refine lv_if_eq (tgt := 51) hx hb dX4_arrangedTwos_35 (by decide) (fun c35 => ?_) (fun c35 => ?_)
        · replace h := fx_ite_t c35 h
          refine lv_iconst (v := 0) hx hb dX4_arrangedTwos_51 (by decide) ?_
          refine lv_iadd hx hb dX4_arrangedTwos_52 ?_
          refine lv_istore_n (lv' := [(1, .int (x1 + (0 : Int32))), (0, .ref (a 0)), (2, .int x2), (3, .int x3)]) hx hb dX4_arrangedTwos_53 rfl hl (by decide) rfl (fun ls hl => ?_)
          refine lv_iinc (v := (x3 + 1)) (lv' := [(3, .int (x3 + 1)), (1, .int (x1 + (0 : Int32))), (0, .ref (a 0)), (2, .int x2)]) hx hb dX4_arrangedTwos_54 hl (k := 3) rfl (by first | rfl | decide) (by decide) rfl (fun ls hl => ?_)
          refine lv_goto (tgt := 18) hx hb dX4_arrangedTwos_57 (by decide) ?_
          exact ih _ _ _ _ h hk60 _ _ _ hP hD hS (lv_sub hl [2, 1, 3, 0] rfl)
        · replace h := fx_ite_f c35 h
          refine lv_aload_n hx hb dX4_arrangedTwos_38 rfl (lv_at hl 0 rfl) ?_
          refine lv_iload_n hx hb dX4_arrangedTwos_39 rfl (lv_at hl 3 rfl) ?_
          refine lv_iload_n hx hb dX4_arrangedTwos_40 rfl (lv_at hl 2 rfl) ?_
          obtain ⟨r41, q41, h⟩ := bnd1_inv h
          refine kVI (n := 2) (As := [.int x3, .int x2]) (rest := [.int x1]) CF hl hK hP hD hS hA (c_X4_brokeOne l D cI a ss mm im wa hi le ro re lm rm pl nu gi bg bm sd x3 x2 r41 q41) gX4_arrangedTwos_X4_brokeOne rfl dX4_arrangedTwos_41 (by decide +kernel) ⟨⟨rfl, rfl⟩, ⟨Nat.le_of_ble_eq_true rfl, Nat.le_of_ble_eq_true rfl⟩, Nat.zero_le _, Nat.zero_le _⟩ (JN.whole rfl) 0 rfl ⟨rfl, rfl⟩ rfl rfl (Nat.le_of_ble_eq_true rfl) (fun H locs hP hD hS => ?_)
          replace hP : va_P D vwCl (cM a cI ss mm im wa hi le ro re lm rm pl nu gi bg bm sd) H := hP
          replace hD : va_D A (cM a cI ss mm im wa hi le ro re lm rm pl nu gi bg bm sd) := hD
          refine lv_if_eq (tgt := 51) hx hb dX4_arrangedTwos_44 (by decide) (fun c44 => ?_) (fun c44 => ?_)
          · replace h := fx_ite_t c44 h
            refine lv_iconst (v := 0) hx hb dX4_arrangedTwos_51 (by decide) ?_
            refine lv_iadd hx hb dX4_arrangedTwos_52 ?_
            refine lv_istore_n (lv' := [(1, .int (x1 + (0 : Int32))), (0, .ref (a 0)), (2, .int x2), (3, .int x3)]) hx hb dX4_arrangedTwos_53 rfl hl (by decide) rfl (fun ls hl => ?_)
            refine lv_iinc (v := (x3 + 1)) (lv' := [(3, .int (x3 + 1)), (1, .int (x1 + (0 : Int32))), (0, .ref (a 0)), (2, .int x2)]) hx hb dX4_arrangedTwos_54 hl (k := 3) rfl (by first | rfl | decide) (by decide) rfl (fun ls hl => ?_)
            refine lv_goto (tgt := 18) hx hb dX4_arrangedTwos_57 (by decide) ?_
            exact ih _ _ _ _ h hk60 _ _ _ hP hD hS (lv_sub hl [2, 1, 3, 0] rfl)
          · replace h := fx_ite_f c44 h
            refine lv_iconst (v := 1) hx hb dX4_arrangedTwos_47 (by decide) ?_
            refine lv_goto (tgt := 52) hx hb dX4_arrangedTwos_48 (by decide) ?_
            refine lv_iadd hx hb dX4_arrangedTwos_52 ?_
            refine lv_istore_n (lv' := [(1, .int (x1 + (1 : Int32))), (0, .ref (a 0)), (2, .int x2), (3, .int x3)]) hx hb dX4_arrangedTwos_53 rfl hl (by decide) rfl (fun ls hl => ?_)
            refine lv_iinc (v := (x3 + 1)) (lv' := [(3, .int (x3 + 1)), (1, .int (x1 + (1 : Int32))), (0, .ref (a 0)), (2, .int x2)]) hx hb dX4_arrangedTwos_54 hl (k := 3) rfl (by first | rfl | decide) (by decide) rfl (fun ls hl => ?_)
            refine lv_goto (tgt := 18) hx hb dX4_arrangedTwos_57 (by decide) ?_
            exact ih _ _ _ _ h hk60 _ _ _ hP hD hS (lv_sub hl [2, 1, 3, 0] rfl)
  have L4 : ∀ (n : Nat)  (x1 : Int32) (x2 : Int32), fuel (fun _ _ => none) (B_X4_arrangedTwos_4 ss) n x1 x2 = some res → 
      ∀ (H : Heap) (locs : List Loc) (ls : Array Slot), va_P D vwCl (cM a cI ss mm im wa hi le ro re lm rm pl nu gi bg bm sd) H → va_D A (cM a cI ss mm im wa hi le ro re lm rm pl nu gi bg bm sd) → va_S A s.heap H locs → lv_has ls 4 [(0, .ref (a 0)), (1, .int x1), (2, .int x2)] → W p l e { frames := 2, cells := 0, slots := 0, locals := 43 } s m args below meth c H locs 0 0 Q (F0 m 4 ls []) := by
    intro n
    induction n with
    | zero =>
      intro x1 x2 h
      exact nomatch (show (none : Option (Int32)) = some res from h)
    | succ n ih =>
      intro x1 x2 h  H locs ls hP hD hS hl
      replace h : B_X4_arrangedTwos_4 ss (fuel (fun _ _ => none) (B_X4_arrangedTwos_4 ss) n) x1 x2 = some res := h
      unfold B_X4_arrangedTwos_4 at h
      refine lv_iload_n hx hb dX4_arrangedTwos_4 rfl (lv_at hl 2 rfl) ?_
      refine lv_aload_n hx hb dX4_arrangedTwos_5 rfl (lv_at hl 0 rfl) ?_
      refine va_get (D := D) (ci := 4) (v := .ref (a 1)) (C := RX4) (T := TX4) (N := 16) hx hb hts i4 hown hK hP 0 rfl rfl 0 (by decide) f9 (fun _ h9 => h9) rfl dX4_arrangedTwos_6 ?_
      refine lv_iconst (v := 0) hx hb dX4_arrangedTwos_9 (by decide) ?_
      refine ald (n := 61) (f := ss) (k := 0) hx hb hK hP 1 0 rfl rfl (fx_lit rfl) rfl dX4_arrangedTwos_10 ?_
      refine lv_icmp_ge (tgt := 66) hx hb dX4_arrangedTwos_11 (by decide) (fun c11 => ?_) (fun c11 => ?_)
      · replace h := fx_ite_t c11 h
        refine lv_iload_n hx hb dX4_arrangedTwos_66 rfl (lv_at hl 1 rfl) ?_
        obtain rfl := rtv1 h
        exact rI hQ hx hb hr hlocks hAe hP hS rfl rfl dX4_arrangedTwos_67
      · replace h := fx_ite_f c11 h
        refine lv_iload_n hx hb dX4_arrangedTwos_14 rfl (lv_at hl 2 rfl) ?_
        refine lv_iconst (v := 1) hx hb dX4_arrangedTwos_15 (by decide) ?_
        refine lv_iadd hx hb dX4_arrangedTwos_16 ?_
        refine lv_istore_n (lv' := [(3, .int (x2 + (1 : Int32))), (0, .ref (a 0)), (1, .int x1), (2, .int x2)]) hx hb dX4_arrangedTwos_17 rfl hl (by decide) rfl (fun ls hl => ?_)
        refine L18 FU _ _ _ _ h (fun x1 h H locs ls hP hD hS hl => ?_) _ _ _ hP hD hS (lv_sub hl [1, 2, 3, 0] rfl)
        refine lv_iinc (v := (x2 + 1)) (lv' := [(2, .int (x2 + 1)), (0, .ref (a 0)), (1, .int x1)]) hx hb dX4_arrangedTwos_60 hl (k := 2) rfl (by first | rfl | decide) (by decide) rfl (fun ls hl => ?_)
        refine lv_goto (tgt := 4) hx hb dX4_arrangedTwos_63 (by decide) ?_
        exact ih _ _ h  _ _ _ hP hD hS (lv_sub hl [1, 2, 0] rfl)
  unfold M_X4_arrangedTwos at h
  refine lv_iconst (v := 0) hx hb dX4_arrangedTwos_0 (by decide) ?_
  refine lv_istore_n (lv' := [(1, .int (0 : Int32)), (0, .ref (a 0))]) hx hb dX4_arrangedTwos_1 rfl hl (by decide) rfl (fun ls hl => ?_)
  refine lv_iconst (v := 0) hx hb dX4_arrangedTwos_2 (by decide) ?_
  refine lv_istore_n (lv' := [(2, .int (0 : Int32)), (1, .int (0 : Int32)), (0, .ref (a 0))]) hx hb dX4_arrangedTwos_3 rfl hl (by decide) rfl (fun ls hl => ?_)
  exact L4 FU _ _ h  _ _ _ hP hD hS (lv_sub hl [2, 1, 0] rfl)
/-! X4_brokenBy -/
set_option maxHeartbeats 4000000 in
set_option maxRecDepth 100000 in
theorem c_X4_brokenBy (l : Launch) (D : va_G) (cI : ClassId) (a : Nat → Nat) (ss : (Nat → Int32)) (mm : (Nat → Int32)) (im : (Nat → Int32)) (wa : (Nat → Int32)) (hi : Int32) (le : (Nat → Int32)) (ro : (Nat → Int32)) (re : (Nat → Int32)) (lm : Int32) (rm : Int32) (pl : Int32) (nu : (Nat → Int32)) (gi : (Nat → Int32)) (bg : (Nat → Int32)) (bm : Int32) (sd : Int32) (p1 : Int32) (res : Int32) (h : M_X4_brokenBy ss p1 = some res) : mI l yX4_brokenBy wsX4_brokenBy { frames := 1, cells := 0, slots := 0, locals := 20 } D cI [.ref (a 0), .int p1] (cM a cI ss mm im wa hi le ro re lm rm pl nu gi bg bm sd) (cM a cI ss mm im wa hi le ro re lm rm pl nu gi bg bm sd) res := by
  intro sz
  refine mStart (cc := cX4_brokenBy) (maxL := 4) (ret := (some .int)) (own := RX4) (by decide) rfl rfl (Nat.le_of_ble_eq_true rfl) (lv := [(0, .ref (a 0)), (1, .int p1)]) rfl ?_
  intro p e s m args below meth c A ls Q H locs CF hr hlocks hK hP hD hS hA hAe hl hQ
  obtain ⟨hx, hb, hml, hown, hts⟩ := id CF
  have f9 := hts (.fieldLink RX4 9 "MendAnothersBreakingModel" "s" "[I") (List.mem_of_getElem? (i := 1) rfl)
  have i4 : ∀ w ∈ wsX40, w ∈ wsX4_brokenBy := fun w h => List.mem_cons_of_mem _ (List.mem_append_right _ h)
  have L4 : ∀ (n : Nat) (x1 : Int32) (x2 : Int32) (x3 : Int32), fuel (fun _ _ => none) (B_X4_brokenBy_4 x1 ss) n x2 x3 = some res → 
      ∀ (H : Heap) (locs : List Loc) (ls : Array Slot), va_P D vwCl (cM a cI ss mm im wa hi le ro re lm rm pl nu gi bg bm sd) H → va_D A (cM a cI ss mm im wa hi le ro re lm rm pl nu gi bg bm sd) → va_S A s.heap H locs → lv_has ls 4 [(0, .ref (a 0)), (1, .int x1), (2, .int x2), (3, .int x3)] → W p l e { frames := 1, cells := 0, slots := 0, locals := 20 } s m args below meth c H locs 0 0 Q (F0 m 4 ls []) := by
    intro n
    induction n with
    | zero =>
      intro x1 x2 x3 h
      exact nomatch (show (none : Option (Int32)) = some res from h)
    | succ n ih =>
      intro x1 x2 x3 h  H locs ls hP hD hS hl
      replace h : B_X4_brokenBy_4 x1 ss (fuel (fun _ _ => none) (B_X4_brokenBy_4 x1 ss) n) x2 x3 = some res := h
      unfold B_X4_brokenBy_4 at h
      refine lv_iload_n hx hb dX4_brokenBy_4 rfl (lv_at hl 3 rfl) ?_
      refine lv_aload_n hx hb dX4_brokenBy_5 rfl (lv_at hl 0 rfl) ?_
      refine va_get (D := D) (ci := 4) (v := .ref (a 1)) (C := RX4) (T := TX4) (N := 16) hx hb hts i4 hown hK hP 0 rfl rfl 0 (by decide) f9 (fun _ h9 => h9) rfl dX4_brokenBy_6 ?_
      refine lv_iconst (v := 1) hx hb dX4_brokenBy_9 (by decide) ?_
      refine ald (n := 61) (f := ss) (k := 1) hx hb hK hP 1 0 rfl rfl (fx_lit rfl) rfl dX4_brokenBy_10 ?_
      refine lv_icmp_ge (tgt := 43) hx hb dX4_brokenBy_11 (by decide) (fun c11 => ?_) (fun c11 => ?_)
      · replace h := fx_ite_t c11 h
        refine lv_iload_n hx hb dX4_brokenBy_43 rfl (lv_at hl 2 rfl) ?_
        obtain rfl := rtv1 h
        exact rI hQ hx hb hr hlocks hAe hP hS rfl rfl dX4_brokenBy_44
      · replace h := fx_ite_f c11 h
        refine lv_iload_n hx hb dX4_brokenBy_14 rfl (lv_at hl 2 rfl) ?_
        refine lv_aload_n hx hb dX4_brokenBy_15 rfl (lv_at hl 0 rfl) ?_
        refine va_get (D := D) (ci := 4) (v := .ref (a 1)) (C := RX4) (T := TX4) (N := 16) hx hb hts i4 hown hK hP 0 rfl rfl 0 (by decide) f9 (fun _ h9 => h9) rfl dX4_brokenBy_16 ?_
        refine lv_iload_n hx hb dX4_brokenBy_19 rfl (lv_at hl 3 rfl) ?_
        obtain ⟨r20, q20, h⟩ := bnd1_inv h
        refine kSI (n := 1) (As := [.int x3]) (rest := [.ref (a 1), .int x2]) CF hl hK hP hD hS hA (c_X4_ofT l D cI   x3 r20 q20) gX4_brokenBy_X4_ofT rfl dX4_brokenBy_20 (by decide +kernel) ⟨⟨rfl, rfl⟩, ⟨Nat.le_of_ble_eq_true rfl, Nat.le_of_ble_eq_true rfl⟩, Nat.zero_le _, Nat.zero_le _⟩ (JN.ro [] rfl rfl) rfl rfl (Nat.le_of_ble_eq_true rfl) (fun H locs hP hD hS => ?_)
        refine lv_iconst (v := 4) hx hb dX4_brokenBy_23 (by decide) ?_
        refine lv_iadd hx hb dX4_brokenBy_24 ?_
        obtain ⟨g25, h⟩ := chk_inv h
        refine va_iald (n := 61) (f := ss) hx hb hK hP 1 0 rfl rfl g25 dX4_brokenBy_25 ?_
        refine lv_iload_n hx hb dX4_brokenBy_26 rfl (lv_at hl 1 rfl) ?_
        refine lv_icmp_ne (tgt := 34) hx hb dX4_brokenBy_27 (by decide) (fun c27 => ?_) (fun c27 => ?_)
        · replace h := fx_ite_f c27 h
          refine lv_iconst (v := 0) hx hb dX4_brokenBy_34 (by decide) ?_
          refine lv_iadd hx hb dX4_brokenBy_35 ?_
          refine lv_istore_n (lv' := [(2, .int (x2 + (0 : Int32))), (0, .ref (a 0)), (1, .int x1), (3, .int x3)]) hx hb dX4_brokenBy_36 rfl hl (by decide) rfl (fun ls hl => ?_)
          refine lv_iinc (v := (x3 + 1)) (lv' := [(3, .int (x3 + 1)), (2, .int (x2 + (0 : Int32))), (0, .ref (a 0)), (1, .int x1)]) hx hb dX4_brokenBy_37 hl (k := 3) rfl (by first | rfl | decide) (by decide) rfl (fun ls hl => ?_)
          refine lv_goto (tgt := 4) hx hb dX4_brokenBy_40 (by decide) ?_
          exact ih _ _ _ h  _ _ _ hP hD hS (lv_sub hl [2, 3, 1, 0] rfl)
        · replace h := fx_ite_t c27 h
          refine lv_iconst (v := 1) hx hb dX4_brokenBy_30 (by decide) ?_
          refine lv_goto (tgt := 35) hx hb dX4_brokenBy_31 (by decide) ?_
          refine lv_iadd hx hb dX4_brokenBy_35 ?_
          refine lv_istore_n (lv' := [(2, .int (x2 + (1 : Int32))), (0, .ref (a 0)), (1, .int x1), (3, .int x3)]) hx hb dX4_brokenBy_36 rfl hl (by decide) rfl (fun ls hl => ?_)
          refine lv_iinc (v := (x3 + 1)) (lv' := [(3, .int (x3 + 1)), (2, .int (x2 + (1 : Int32))), (0, .ref (a 0)), (1, .int x1)]) hx hb dX4_brokenBy_37 hl (k := 3) rfl (by first | rfl | decide) (by decide) rfl (fun ls hl => ?_)
          refine lv_goto (tgt := 4) hx hb dX4_brokenBy_40 (by decide) ?_
          exact ih _ _ _ h  _ _ _ hP hD hS (lv_sub hl [2, 3, 1, 0] rfl)
  unfold M_X4_brokenBy at h
  refine lv_iconst (v := 0) hx hb dX4_brokenBy_0 (by decide) ?_
  refine lv_istore_n (lv' := [(2, .int (0 : Int32)), (0, .ref (a 0)), (1, .int p1)]) hx hb dX4_brokenBy_1 rfl hl (by decide) rfl (fun ls hl => ?_)
  refine lv_iconst (v := 0) hx hb dX4_brokenBy_2 (by decide) ?_
  refine lv_istore_n (lv' := [(3, .int (0 : Int32)), (2, .int (0 : Int32)), (0, .ref (a 0)), (1, .int p1)]) hx hb dX4_brokenBy_3 rfl hl (by decide) rfl (fun ls hl => ?_)
  exact L4 FU _ _ _ h  _ _ _ hP hD hS (lv_sub hl [2, 3, 1, 0] rfl)
/-! X4_richesOf -/
set_option maxHeartbeats 4000000 in
set_option maxRecDepth 100000 in
theorem c_X4_richesOf (l : Launch) (D : va_G) (cI : ClassId) (a : Nat → Nat) (ss : (Nat → Int32)) (mm : (Nat → Int32)) (im : (Nat → Int32)) (wa : (Nat → Int32)) (hi : Int32) (le : (Nat → Int32)) (ro : (Nat → Int32)) (re : (Nat → Int32)) (lm : Int32) (rm : Int32) (pl : Int32) (nu : (Nat → Int32)) (gi : (Nat → Int32)) (bg : (Nat → Int32)) (bm : Int32) (sd : Int32) (p1 : Int32) (res : Int32) (h : M_X4_richesOf ss p1 = some res) : mI l yX4_richesOf wsX4_richesOf { frames := 2, cells := 0, slots := 0, locals := 41 } D cI [.ref (a 0), .int p1] (cM a cI ss mm im wa hi le ro re lm rm pl nu gi bg bm sd) (cM a cI ss mm im wa hi le ro re lm rm pl nu gi bg bm sd) res := by
  intro sz
  refine mStart (cc := cX4_richesOf) (maxL := 4) (ret := (some .int)) (own := RX4) (by decide) rfl rfl (Nat.le_of_ble_eq_true rfl) (lv := [(0, .ref (a 0)), (1, .int p1)]) rfl ?_
  intro p e s m args below meth c A ls Q H locs CF hr hlocks hK hP hD hS hA hAe hl hQ
  obtain ⟨hx, hb, hml, hown, hts⟩ := id CF
  have f9 := hts (.fieldLink RX4 9 "MendAnothersBreakingModel" "s" "[I") (List.mem_of_getElem? (i := 1) rfl)
  have i4 : ∀ w ∈ wsX40, w ∈ wsX4_richesOf := fun w h => List.mem_cons_of_mem _ (List.mem_append_right _ h)
  have L4 : ∀ (n : Nat) (x1 : Int32) (x2 : Int32) (x3 : Int32), fuel (fun _ _ => none) (B_X4_richesOf_4 x1 ss) n x2 x3 = some res → 
      ∀ (H : Heap) (locs : List Loc) (ls : Array Slot), va_P D vwCl (cM a cI ss mm im wa hi le ro re lm rm pl nu gi bg bm sd) H → va_D A (cM a cI ss mm im wa hi le ro re lm rm pl nu gi bg bm sd) → va_S A s.heap H locs → lv_has ls 4 [(0, .ref (a 0)), (1, .int x1), (2, .int x2), (3, .int x3)] → W p l e { frames := 2, cells := 0, slots := 0, locals := 41 } s m args below meth c H locs 0 0 Q (F0 m 4 ls []) := by
    intro n
    induction n with
    | zero =>
      intro x1 x2 x3 h
      exact nomatch (show (none : Option (Int32)) = some res from h)
    | succ n ih =>
      intro x1 x2 x3 h  H locs ls hP hD hS hl
      replace h : B_X4_richesOf_4 x1 ss (fuel (fun _ _ => none) (B_X4_richesOf_4 x1 ss) n) x2 x3 = some res := h
      unfold B_X4_richesOf_4 at h
      refine lv_iload_n hx hb dX4_richesOf_4 rfl (lv_at hl 3 rfl) ?_
      refine lv_aload_n hx hb dX4_richesOf_5 rfl (lv_at hl 0 rfl) ?_
      refine va_get (D := D) (ci := 4) (v := .ref (a 1)) (C := RX4) (T := TX4) (N := 16) hx hb hts i4 hown hK hP 0 rfl rfl 0 (by decide) f9 (fun _ h9 => h9) rfl dX4_richesOf_6 ?_
      refine lv_iconst (v := 1) hx hb dX4_richesOf_9 (by decide) ?_
      refine ald (n := 61) (f := ss) (k := 1) hx hb hK hP 1 0 rfl rfl (fx_lit rfl) rfl dX4_richesOf_10 ?_
      refine lv_icmp_ge (tgt := 64) hx hb dX4_richesOf_11 (by decide) (fun c11 => ?_) (fun c11 => ?_)
      · replace h := fx_ite_t c11 h
        refine lv_iload_n hx hb dX4_richesOf_64 rfl (lv_at hl 2 rfl) ?_
        obtain rfl := rtv1 h
        exact rI hQ hx hb hr hlocks hAe hP hS rfl rfl dX4_richesOf_65
      · replace h := fx_ite_f c11 h
        refine lv_iload_n hx hb dX4_richesOf_14 rfl (lv_at hl 2 rfl) ?_
        refine lv_aload_n hx hb dX4_richesOf_15 rfl (lv_at hl 0 rfl) ?_
        refine va_get (D := D) (ci := 4) (v := .ref (a 1)) (C := RX4) (T := TX4) (N := 16) hx hb hts i4 hown hK hP 0 rfl rfl 0 (by decide) f9 (fun _ h9 => h9) rfl dX4_richesOf_16 ?_
        refine lv_iload_n hx hb dX4_richesOf_19 rfl (lv_at hl 3 rfl) ?_
        obtain ⟨r20, q20, h⟩ := bnd1_inv h
        refine kSI (n := 2) (As := [.ref (a 1), .int x3]) (rest := [.int x2]) CF hl hK hP hD hS hA (c_X4_isWhole l D cI (a 1) ss x3 r20 q20) gX4_richesOf_X4_isWhole rfl dX4_richesOf_20 (by decide +kernel) ⟨⟨rfl, rfl⟩, ⟨Nat.le_of_ble_eq_true rfl, Nat.le_of_ble_eq_true rfl⟩, Nat.zero_le _, Nat.zero_le _⟩ (JN.ro [1] rfl rfl) rfl rfl (Nat.le_of_ble_eq_true rfl) (fun H locs hP hD hS => ?_)
        refine lv_if_eq (tgt := 55) hx hb dX4_richesOf_23 (by decide) (fun c23 => ?_) (fun c23 => ?_)
        · replace h := fx_ite_t c23 h
          refine lv_iconst (v := 0) hx hb dX4_richesOf_55 (by decide) ?_
          refine lv_iadd hx hb dX4_richesOf_56 ?_
          refine lv_istore_n (lv' := [(2, .int (x2 + (0 : Int32))), (0, .ref (a 0)), (1, .int x1), (3, .int x3)]) hx hb dX4_richesOf_57 rfl hl (by decide) rfl (fun ls hl => ?_)
          refine lv_iinc (v := (x3 + 1)) (lv' := [(3, .int (x3 + 1)), (2, .int (x2 + (0 : Int32))), (0, .ref (a 0)), (1, .int x1)]) hx hb dX4_richesOf_58 hl (k := 3) rfl (by first | rfl | decide) (by decide) rfl (fun ls hl => ?_)
          refine lv_goto (tgt := 4) hx hb dX4_richesOf_61 (by decide) ?_
          exact ih _ _ _ h  _ _ _ hP hD hS (lv_sub hl [2, 3, 1, 0] rfl)
        · replace h := fx_ite_f c23 h
          refine lv_aload_n hx hb dX4_richesOf_26 rfl (lv_at hl 0 rfl) ?_
          refine va_get (D := D) (ci := 4) (v := .ref (a 1)) (C := RX4) (T := TX4) (N := 16) hx hb hts i4 hown hK hP 0 rfl rfl 0 (by decide) f9 (fun _ h9 => h9) rfl dX4_richesOf_27 ?_
          refine lv_iload_n hx hb dX4_richesOf_30 rfl (lv_at hl 3 rfl) ?_
          obtain ⟨r31, q31, h⟩ := bnd1_inv h
          refine kSI (n := 1) (As := [.int x3]) (rest := [.ref (a 1), .int x2]) CF hl hK hP hD hS hA (c_X4_ofT l D cI   x3 r31 q31) gX4_richesOf_X4_ofT rfl dX4_richesOf_31 (by decide +kernel) ⟨⟨rfl, rfl⟩, ⟨Nat.le_of_ble_eq_true rfl, Nat.le_of_ble_eq_true rfl⟩, Nat.zero_le _, Nat.zero_le _⟩ (JN.ro [] rfl rfl) rfl rfl (Nat.le_of_ble_eq_true rfl) (fun H locs hP hD hS => ?_)
          refine lv_iconst (v := 2) hx hb dX4_richesOf_34 (by decide) ?_
          refine lv_iadd hx hb dX4_richesOf_35 ?_
          obtain ⟨g36, h⟩ := chk_inv h
          refine va_iald (n := 61) (f := ss) hx hb hK hP 1 0 rfl rfl g36 dX4_richesOf_36 ?_
          refine lv_iload_n hx hb dX4_richesOf_37 rfl (lv_at hl 1 rfl) ?_
          refine lv_icmp_ne (tgt := 55) hx hb dX4_richesOf_38 (by decide) (fun c38 => ?_) (fun c38 => ?_)
          · replace h := fx_ite_f c38 h
            refine lv_iconst (v := 0) hx hb dX4_richesOf_55 (by decide) ?_
            refine lv_iadd hx hb dX4_richesOf_56 ?_
            refine lv_istore_n (lv' := [(2, .int (x2 + (0 : Int32))), (0, .ref (a 0)), (1, .int x1), (3, .int x3)]) hx hb dX4_richesOf_57 rfl hl (by decide) rfl (fun ls hl => ?_)
            refine lv_iinc (v := (x3 + 1)) (lv' := [(3, .int (x3 + 1)), (2, .int (x2 + (0 : Int32))), (0, .ref (a 0)), (1, .int x1)]) hx hb dX4_richesOf_58 hl (k := 3) rfl (by first | rfl | decide) (by decide) rfl (fun ls hl => ?_)
            refine lv_goto (tgt := 4) hx hb dX4_richesOf_61 (by decide) ?_
            exact ih _ _ _ h  _ _ _ hP hD hS (lv_sub hl [2, 3, 1, 0] rfl)
          · replace h := fx_ite_t c38 h
            refine lv_aload_n hx hb dX4_richesOf_41 rfl (lv_at hl 0 rfl) ?_
            refine va_get (D := D) (ci := 4) (v := .ref (a 1)) (C := RX4) (T := TX4) (N := 16) hx hb hts i4 hown hK hP 0 rfl rfl 0 (by decide) f9 (fun _ h9 => h9) rfl dX4_richesOf_42 ?_
            refine lv_iload_n hx hb dX4_richesOf_45 rfl (lv_at hl 3 rfl) ?_
            obtain ⟨r46, q46, h⟩ := bnd1_inv h
            refine kSI (n := 1) (As := [.int x3]) (rest := [.ref (a 1), .int x2]) CF hl hK hP hD hS hA (c_X4_ofT l D cI   x3 r46 q46) gX4_richesOf_X4_ofT rfl dX4_richesOf_46 (by decide +kernel) ⟨⟨rfl, rfl⟩, ⟨Nat.le_of_ble_eq_true rfl, Nat.le_of_ble_eq_true rfl⟩, Nat.zero_le _, Nat.zero_le _⟩ (JN.ro [] rfl rfl) rfl rfl (Nat.le_of_ble_eq_true rfl) (fun H locs hP hD hS => ?_)
            refine lv_iconst (v := 1) hx hb dX4_richesOf_49 (by decide) ?_
            refine lv_iadd hx hb dX4_richesOf_50 ?_
            obtain ⟨g51, h⟩ := chk_inv h
            refine va_iald (n := 61) (f := ss) hx hb hK hP 1 0 rfl rfl g51 dX4_richesOf_51 ?_
            refine lv_goto (tgt := 56) hx hb dX4_richesOf_52 (by decide) ?_
            refine lv_iadd hx hb dX4_richesOf_56 ?_
            refine lv_istore_n (lv' := [(2, .int (x2 + (ss (Int32.toNatClampNeg (r46 + (1 : Int32)))))), (0, .ref (a 0)), (1, .int x1), (3, .int x3)]) hx hb dX4_richesOf_57 rfl hl (by decide) rfl (fun ls hl => ?_)
            refine lv_iinc (v := (x3 + 1)) (lv' := [(3, .int (x3 + 1)), (2, .int (x2 + (ss (Int32.toNatClampNeg (r46 + (1 : Int32)))))), (0, .ref (a 0)), (1, .int x1)]) hx hb dX4_richesOf_58 hl (k := 3) rfl (by first | rfl | decide) (by decide) rfl (fun ls hl => ?_)
            refine lv_goto (tgt := 4) hx hb dX4_richesOf_61 (by decide) ?_
            exact ih _ _ _ h  _ _ _ hP hD hS (lv_sub hl [2, 3, 1, 0] rfl)
  unfold M_X4_richesOf at h
  refine lv_iconst (v := 0) hx hb dX4_richesOf_0 (by decide) ?_
  refine lv_istore_n (lv' := [(2, .int (0 : Int32)), (0, .ref (a 0)), (1, .int p1)]) hx hb dX4_richesOf_1 rfl hl (by decide) rfl (fun ls hl => ?_)
  refine lv_iconst (v := 0) hx hb dX4_richesOf_2 (by decide) ?_
  refine lv_istore_n (lv' := [(3, .int (0 : Int32)), (2, .int (0 : Int32)), (0, .ref (a 0)), (1, .int p1)]) hx hb dX4_richesOf_3 rfl hl (by decide) rfl (fun ls hl => ?_)
  exact L4 FU _ _ _ h  _ _ _ hP hD hS (lv_sub hl [2, 3, 1, 0] rfl)
/-! X4_arranged -/
set_option maxHeartbeats 4000000 in
set_option maxRecDepth 100000 in
theorem c_X4_arranged (l : Launch) (D : va_G) (cI : ClassId) (a : Nat → Nat) (ss : (Nat → Int32)) (mm : (Nat → Int32)) (im : (Nat → Int32)) (wa : (Nat → Int32)) (hi : Int32) (le : (Nat → Int32)) (ro : (Nat → Int32)) (re : (Nat → Int32)) (lm : Int32) (rm : Int32) (pl : Int32) (nu : (Nat → Int32)) (gi : (Nat → Int32)) (bg : (Nat → Int32)) (bm : Int32) (sd : Int32) (p1 : Int32) (res : Int32) (u_re : (Nat → Int32)) (h : M_X4_arranged ss re p1 = some (res, u_re)) : mI l yX4_arranged wsX4_arranged { frames := 3, cells := 0, slots := 0, locals := 66 } D cI [.ref (a 0), .int p1] (cM a cI ss mm im wa hi le ro re lm rm pl nu gi bg bm sd) (cM a cI ss mm im wa hi le ro u_re lm rm pl nu gi bg bm sd) res := by
  intro sz
  refine mStart (cc := cX4_arranged) (maxL := 6) (ret := (some .int)) (own := RX4) (by decide) rfl rfl (Nat.le_of_ble_eq_true rfl) (lv := [(0, .ref (a 0)), (1, .int p1)]) rfl ?_
  intro p e s m args below meth c A ls Q H locs CF hr hlocks hK hP hD hS hA hAe hl hQ
  obtain ⟨hx, hb, hml, hown, hts⟩ := id CF
  have f9 := hts (.fieldLink RX4 9 "MendAnothersBreakingModel" "s" "[I") (List.mem_of_getElem? (i := 1) rfl)
  have i4 : ∀ w ∈ wsX40, w ∈ wsX4_arranged := fun w h => List.mem_cons_of_mem _ (List.mem_append_right _ h)
  have L42 : ∀ (n : Nat) (x1 : Int32) (re : (Nat → Int32)) (x2 : Int32) (x3 : Int32) (x4 : Int32), fuel (fun _ _ _ => none) (B_X4_arranged_42 x1 ss re) n x2 x3 x4 = some (res, u_re) → 
      ∀ (H : Heap) (locs : List Loc) (ls : Array Slot), va_P D vwCl (cM a cI ss mm im wa hi le ro re lm rm pl nu gi bg bm sd) H → va_D A (cM a cI ss mm im wa hi le ro re lm rm pl nu gi bg bm sd) → va_S A s.heap H locs → lv_has ls 6 [(0, .ref (a 0)), (1, .int x1), (2, .int x2), (3, .int x3), (4, .int x4)] → W p l e { frames := 3, cells := 0, slots := 0, locals := 66 } s m args below meth c H locs 0 0 Q (F0 m 42 ls []) := by
    intro n
    induction n with
    | zero =>
      intro x1 re x2 x3 x4 h
      exact nomatch (show (none : Option (Int32 × (Nat → Int32))) = some (res, u_re) from h)
    | succ n ih =>
      intro x1 re x2 x3 x4 h  H locs ls hP hD hS hl
      replace h : B_X4_arranged_42 x1 ss re (fuel (fun _ _ _ => none) (B_X4_arranged_42 x1 ss re) n) x2 x3 x4 = some (res, u_re) := h
      unfold B_X4_arranged_42 at h
      refine lv_iload hx hb dX4_arranged_42 (lv_at hl 4 rfl) ?_
      refine lv_aload_n hx hb dX4_arranged_44 rfl (lv_at hl 0 rfl) ?_
      refine va_get (D := D) (ci := 4) (v := .ref (a 1)) (C := RX4) (T := TX4) (N := 16) hx hb hts i4 hown hK hP 0 rfl rfl 0 (by decide) f9 (fun _ h9 => h9) rfl dX4_arranged_45 ?_
      refine lv_iconst (v := 0) hx hb dX4_arranged_48 (by decide) ?_
      refine ald (n := 61) (f := ss) (k := 0) hx hb hK hP 1 0 rfl rfl (fx_lit rfl) rfl dX4_arranged_49 ?_
      refine lv_icmp_ge (tgt := 96) hx hb dX4_arranged_50 (by decide) (fun c50 => ?_) (fun c50 => ?_)
      · replace h := fx_ite_t c50 h
        refine lv_iload_n hx hb dX4_arranged_96 rfl (lv_at hl 2 rfl) ?_
        obtain ⟨rfl, rfl⟩ := rtv2 h
        exact rI hQ hx hb hr hlocks hAe hP hS rfl rfl dX4_arranged_97
      · replace h := fx_ite_f c50 h
        refine lv_iload_n hx hb dX4_arranged_53 rfl (lv_at hl 1 rfl) ?_
        refine lv_iconst (v := 1) hx hb dX4_arranged_54 (by decide) ?_
        refine lv_icmp_ne (tgt := 67) hx hb dX4_arranged_55 (by decide) (fun c55 => ?_) (fun c55 => ?_)
        · replace h := fx_ite_f c55 h
          refine lv_aload_n hx hb dX4_arranged_67 rfl (lv_at hl 0 rfl) ?_
          refine lv_iload hx hb dX4_arranged_68 (lv_at hl 4 rfl) ?_
          obtain ⟨r70, q70, h⟩ := bnd1_inv h
          refine kVI (n := 1) (As := [.int x4]) (rest := []) CF hl hK hP hD hS hA (c_X4_richesOf l D cI a ss mm im wa hi le ro re lm rm pl nu gi bg bm sd x4 r70 q70) gX4_arranged_X4_richesOf rfl dX4_arranged_70 (by decide +kernel) ⟨⟨rfl, rfl⟩, ⟨Nat.le_of_ble_eq_true rfl, Nat.le_of_ble_eq_true rfl⟩, Nat.zero_le _, Nat.zero_le _⟩ (JN.whole rfl) 0 rfl ⟨rfl, rfl⟩ rfl rfl (Nat.le_of_ble_eq_true rfl) (fun H locs hP hD hS => ?_)
          replace hP : va_P D vwCl (cM a cI ss mm im wa hi le ro re lm rm pl nu gi bg bm sd) H := hP
          replace hD : va_D A (cM a cI ss mm im wa hi le ro re lm rm pl nu gi bg bm sd) := hD
          refine lv_istore (lv' := [(5, .int r70), (0, .ref (a 0)), (1, .int x1), (2, .int x2), (3, .int x3), (4, .int x4)]) hx hb dX4_arranged_73 hl (by decide) rfl (fun ls hl => ?_)
          refine lv_iload hx hb dX4_arranged_75 (lv_at hl 0 rfl) ?_
          refine lv_iload_n hx hb dX4_arranged_77 rfl (lv_at hl 4 rfl) ?_
          refine lv_icmp_gt (tgt := 84) hx hb dX4_arranged_78 (by decide) (fun c78 => ?_) (fun c78 => ?_)
          · replace h := fx_ite_t c78 h
            refine lv_iload hx hb dX4_arranged_84 (lv_at hl 5 rfl) ?_
            refine lv_istore_n (lv' := [(2, .int x4), (5, .int r70), (0, .ref (a 0)), (1, .int x1), (3, .int x3), (4, .int x4)]) hx hb dX4_arranged_86 rfl hl (by decide) rfl (fun ls hl => ?_)
            refine lv_iload hx hb dX4_arranged_87 (lv_at hl 1 rfl) ?_
            refine lv_istore_n (lv' := [(3, .int r70), (2, .int x4), (5, .int r70), (0, .ref (a 0)), (1, .int x1), (4, .int x4)]) hx hb dX4_arranged_89 rfl hl (by decide) rfl (fun ls hl => ?_)
            refine lv_iinc (v := (x4 + 1)) (lv' := [(4, .int (x4 + 1)), (3, .int r70), (2, .int x4), (5, .int r70), (0, .ref (a 0)), (1, .int x1)]) hx hb dX4_arranged_90 hl (k := 5) rfl (by first | rfl | decide) (by decide) rfl (fun ls hl => ?_)
            refine lv_goto (tgt := 42) hx hb dX4_arranged_93 (by decide) ?_
            exact ih _ _ _ _ _ h  _ _ _ hP hD hS (lv_sub hl [4, 5, 2, 1, 0] rfl)
          · replace h := fx_ite_f c78 h
            refine lv_goto (tgt := 90) hx hb dX4_arranged_81 (by decide) ?_
            refine lv_iinc (v := (x4 + 1)) (lv' := [(4, .int (x4 + 1)), (5, .int r70), (0, .ref (a 0)), (1, .int x1), (2, .int x2), (3, .int x3)]) hx hb dX4_arranged_90 hl (k := 5) rfl (by first | rfl | decide) (by decide) rfl (fun ls hl => ?_)
            refine lv_goto (tgt := 42) hx hb dX4_arranged_93 (by decide) ?_
            exact ih _ _ _ _ _ h  _ _ _ hP hD hS (lv_sub hl [2, 3, 4, 5, 0] rfl)
        · replace h := fx_ite_t c55 h
          refine lv_aload_n hx hb dX4_arranged_58 rfl (lv_at hl 0 rfl) ?_
          refine lv_iload hx hb dX4_arranged_59 (lv_at hl 4 rfl) ?_
          obtain ⟨r61, q61, h⟩ := bnd1_inv h
          refine kVI (n := 1) (As := [.int x4]) (rest := []) CF hl hK hP hD hS hA (c_X4_brokenBy l D cI a ss mm im wa hi le ro re lm rm pl nu gi bg bm sd x4 r61 q61) gX4_arranged_X4_brokenBy rfl dX4_arranged_61 (by decide +kernel) ⟨⟨rfl, rfl⟩, ⟨Nat.le_of_ble_eq_true rfl, Nat.le_of_ble_eq_true rfl⟩, Nat.zero_le _, Nat.zero_le _⟩ (JN.whole rfl) 0 rfl ⟨rfl, rfl⟩ rfl rfl (Nat.le_of_ble_eq_true rfl) (fun H locs hP hD hS => ?_)
          replace hP : va_P D vwCl (cM a cI ss mm im wa hi le ro re lm rm pl nu gi bg bm sd) H := hP
          replace hD : va_D A (cM a cI ss mm im wa hi le ro re lm rm pl nu gi bg bm sd) := hD
          refine lv_goto (tgt := 73) hx hb dX4_arranged_64 (by decide) ?_
          refine lv_istore (lv' := [(5, .int r61), (0, .ref (a 0)), (1, .int x1), (2, .int x2), (3, .int x3), (4, .int x4)]) hx hb dX4_arranged_73 hl (by decide) rfl (fun ls hl => ?_)
          refine lv_iload hx hb dX4_arranged_75 (lv_at hl 0 rfl) ?_
          refine lv_iload_n hx hb dX4_arranged_77 rfl (lv_at hl 4 rfl) ?_
          refine lv_icmp_gt (tgt := 84) hx hb dX4_arranged_78 (by decide) (fun c78 => ?_) (fun c78 => ?_)
          · replace h := fx_ite_t c78 h
            refine lv_iload hx hb dX4_arranged_84 (lv_at hl 5 rfl) ?_
            refine lv_istore_n (lv' := [(2, .int x4), (5, .int r61), (0, .ref (a 0)), (1, .int x1), (3, .int x3), (4, .int x4)]) hx hb dX4_arranged_86 rfl hl (by decide) rfl (fun ls hl => ?_)
            refine lv_iload hx hb dX4_arranged_87 (lv_at hl 1 rfl) ?_
            refine lv_istore_n (lv' := [(3, .int r61), (2, .int x4), (5, .int r61), (0, .ref (a 0)), (1, .int x1), (4, .int x4)]) hx hb dX4_arranged_89 rfl hl (by decide) rfl (fun ls hl => ?_)
            refine lv_iinc (v := (x4 + 1)) (lv' := [(4, .int (x4 + 1)), (3, .int r61), (2, .int x4), (5, .int r61), (0, .ref (a 0)), (1, .int x1)]) hx hb dX4_arranged_90 hl (k := 5) rfl (by first | rfl | decide) (by decide) rfl (fun ls hl => ?_)
            refine lv_goto (tgt := 42) hx hb dX4_arranged_93 (by decide) ?_
            exact ih _ _ _ _ _ h  _ _ _ hP hD hS (lv_sub hl [4, 5, 2, 1, 0] rfl)
          · replace h := fx_ite_f c78 h
            refine lv_goto (tgt := 90) hx hb dX4_arranged_81 (by decide) ?_
            refine lv_iinc (v := (x4 + 1)) (lv' := [(4, .int (x4 + 1)), (5, .int r61), (0, .ref (a 0)), (1, .int x1), (2, .int x2), (3, .int x3)]) hx hb dX4_arranged_90 hl (k := 5) rfl (by first | rfl | decide) (by decide) rfl (fun ls hl => ?_)
            refine lv_goto (tgt := 42) hx hb dX4_arranged_93 (by decide) ?_
            exact ih _ _ _ _ _ h  _ _ _ hP hD hS (lv_sub hl [2, 3, 4, 5, 0] rfl)
  unfold M_X4_arranged at h
  refine lv_iload_n hx hb dX4_arranged_0 rfl (lv_at hl 1 rfl) ?_
  refine lv_iconst (v := 0) hx hb dX4_arranged_1 (by decide) ?_
  refine lv_iconst (v := 2) hx hb dX4_arranged_2 (by decide) ?_
  obtain ⟨r3, q3, h⟩ := bnd1_inv h
  refine kSI (n := 3) (As := [.int p1, .int (0 : Int32), .int (2 : Int32)]) (rest := []) CF hl hK hP hD hS hA (c_X4_isIn l D cI   p1 (0 : Int32) (2 : Int32) r3 q3) gX4_arranged_X4_isIn rfl dX4_arranged_3 (by decide +kernel) ⟨⟨rfl, rfl⟩, ⟨Nat.le_of_ble_eq_true rfl, Nat.le_of_ble_eq_true rfl⟩, Nat.zero_le _, Nat.zero_le _⟩ (JN.ro [] rfl rfl) rfl rfl (Nat.le_of_ble_eq_true rfl) (fun H locs hP hD hS => ?_)
  refine lv_if_ne (tgt := 16) hx hb dX4_arranged_6 (by decide) (fun c6 => ?_) (fun c6 => ?_)
  · replace h := fx_ite_f c6 h
    refine lv_iload_n hx hb dX4_arranged_16 rfl (lv_at hl 1 rfl) ?_
    refine lv_if_ne (tgt := 25) hx hb dX4_arranged_17 (by decide) (fun c17 => ?_) (fun c17 => ?_)
    · replace h := fx_ite_f c17 h
      refine lv_bipush (v := (-9)) hx hb dX4_arranged_25 (by decide) ?_
      refine lv_istore_n (lv' := [(2, .int (-9 : Int32)), (0, .ref (a 0)), (1, .int p1)]) hx hb dX4_arranged_27 rfl hl (by decide) rfl (fun ls hl => ?_)
      refine lv_iload_n hx hb dX4_arranged_28 rfl (lv_at hl 2 rfl) ?_
      refine lv_iconst (v := 1) hx hb dX4_arranged_29 (by decide) ?_
      refine lv_icmp_ne (tgt := 37) hx hb dX4_arranged_30 (by decide) (fun c30 => ?_) (fun c30 => ?_)
      · replace h := fx_ite_f c30 h
        refine lv_iconst (v := (-1)) hx hb dX4_arranged_37 (by decide) ?_
        refine lv_istore_n (lv' := [(3, .int (-1 : Int32)), (2, .int (-9 : Int32)), (0, .ref (a 0)), (1, .int p1)]) hx hb dX4_arranged_38 rfl hl (by decide) rfl (fun ls hl => ?_)
        refine lv_iconst (v := 0) hx hb dX4_arranged_39 (by decide) ?_
        refine lv_istore (lv' := [(4, .int (0 : Int32)), (3, .int (-1 : Int32)), (2, .int (-9 : Int32)), (0, .ref (a 0)), (1, .int p1)]) hx hb dX4_arranged_40 hl (by decide) rfl (fun ls hl => ?_)
        exact L42 FU _ _ _ _ _ h  _ _ _ hP hD hS (lv_sub hl [3, 4, 2, 1, 0] rfl)
      · replace h := fx_ite_t c30 h
        refine lv_iconst (v := 0) hx hb dX4_arranged_33 (by decide) ?_
        refine lv_goto (tgt := 38) hx hb dX4_arranged_34 (by decide) ?_
        refine lv_istore_n (lv' := [(3, .int (0 : Int32)), (2, .int (-9 : Int32)), (0, .ref (a 0)), (1, .int p1)]) hx hb dX4_arranged_38 rfl hl (by decide) rfl (fun ls hl => ?_)
        refine lv_iconst (v := 0) hx hb dX4_arranged_39 (by decide) ?_
        refine lv_istore (lv' := [(4, .int (0 : Int32)), (3, .int (0 : Int32)), (2, .int (-9 : Int32)), (0, .ref (a 0)), (1, .int p1)]) hx hb dX4_arranged_40 hl (by decide) rfl (fun ls hl => ?_)
        exact L42 FU _ _ _ _ _ h  _ _ _ hP hD hS (lv_sub hl [3, 4, 2, 1, 0] rfl)
    · replace h := fx_ite_t c17 h
      refine lv_aload_n hx hb dX4_arranged_20 rfl (lv_at hl 0 rfl) ?_
      obtain ⟨r21, q21, h⟩ := bnd1_inv h
      refine kVI (n := 0) (As := []) (rest := []) CF hl hK hP hD hS hA (c_X4_arrangedTwos l D cI a ss mm im wa hi le ro re lm rm pl nu gi bg bm sd  r21 q21) gX4_arranged_X4_arrangedTwos rfl dX4_arranged_21 (by decide +kernel) ⟨⟨rfl, rfl⟩, ⟨Nat.le_of_ble_eq_true rfl, Nat.le_of_ble_eq_true rfl⟩, Nat.zero_le _, Nat.zero_le _⟩ (JN.whole rfl) 0 rfl ⟨rfl, rfl⟩ rfl rfl (Nat.le_of_ble_eq_true rfl) (fun H locs hP hD hS => ?_)
      replace hP : va_P D vwCl (cM a cI ss mm im wa hi le ro re lm rm pl nu gi bg bm sd) H := hP
      replace hD : va_D A (cM a cI ss mm im wa hi le ro re lm rm pl nu gi bg bm sd) := hD
      obtain ⟨rfl, rfl⟩ := rtv2 h
      exact rI hQ hx hb hr hlocks hAe hP hS rfl rfl dX4_arranged_24
  · replace h := fx_ite_t c6 h
    refine lv_aload_n hx hb dX4_arranged_9 rfl (lv_at hl 0 rfl) ?_
    refine lv_bipush (v := (-2)) hx hb dX4_arranged_10 (by decide) ?_
    obtain ⟨r12, u12_re, q12, h⟩ := bnd2_inv h
    refine kVI (n := 1) (As := [.int (-2 : Int32)]) (rest := []) CF hl hK hP hD hS hA (c_X4_no l D cI a ss mm im wa hi le ro re lm rm pl nu gi bg bm sd (-2 : Int32) r12 u12_re q12) gX4_arranged_X4_no rfl dX4_arranged_12 (by decide +kernel) ⟨⟨rfl, rfl⟩, ⟨Nat.le_of_ble_eq_true rfl, Nat.le_of_ble_eq_true rfl⟩, Nat.zero_le _, Nat.zero_le _⟩ (JN.whole (w1 := (cM a cI ss mm im wa hi le ro u12_re lm rm pl nu gi bg bm sd)) rfl) 0 rfl ⟨rfl, rfl⟩ rfl rfl (Nat.le_of_ble_eq_true rfl) (fun H locs hP hD hS => ?_)
    replace hP : va_P D vwCl (cM a cI ss mm im wa hi le ro u12_re lm rm pl nu gi bg bm sd) H := hP
    replace hD : va_D A (cM a cI ss mm im wa hi le ro u12_re lm rm pl nu gi bg bm sd) := hD
    obtain ⟨rfl, rfl⟩ := rtv2 h
    exact rI hQ hx hb hr hlocks hAe hP hS rfl rfl dX4_arranged_15
/-! X4_breaksLeast -/
set_option maxHeartbeats 4000000 in
set_option maxRecDepth 100000 in
theorem c_X4_breaksLeast (l : Launch) (D : va_G) (cI : ClassId) (a : Nat → Nat) (ss : (Nat → Int32)) (mm : (Nat → Int32)) (im : (Nat → Int32)) (wa : (Nat → Int32)) (hi : Int32) (le : (Nat → Int32)) (ro : (Nat → Int32)) (re : (Nat → Int32)) (lm : Int32) (rm : Int32) (pl : Int32) (nu : (Nat → Int32)) (gi : (Nat → Int32)) (bg : (Nat → Int32)) (bm : Int32) (sd : Int32) (p1 : Int32) (p2 : Int32) (u_mm : (Nat → Int32)) (h : M_X4_breaksLeast mm p1 p2 = some u_mm) : mV l yX4_breaksLeast wsX4_breaksLeast { frames := 2, cells := 0, slots := 0, locals := 41 } D cI [.ref (a 0), .int p1, .int p2] (cM a cI ss mm im wa hi le ro re lm rm pl nu gi bg bm sd) (cM a cI ss u_mm im wa hi le ro re lm rm pl nu gi bg bm sd) := by
  intro sz
  refine mStart (cc := cX4_breaksLeast) (maxL := 4) (ret := none) (own := RX4) (by decide) rfl rfl (Nat.le_of_ble_eq_true rfl) (lv := [(0, .ref (a 0)), (1, .int p1), (2, .int p2)]) rfl ?_
  intro p e s m args below meth c A ls Q H locs CF hr hlocks hK hP hD hS hA hAe hl hQ
  obtain ⟨hx, hb, hml, hown, hts⟩ := id CF
  have f13 := hts (.fieldLink RX4 13 "MendAnothersBreakingModel" "m" "[I") (List.mem_of_getElem? (i := 1) rfl)
  have i4 : ∀ w ∈ wsX40, w ∈ wsX4_breaksLeast := fun w h => List.mem_cons_of_mem _ (List.mem_append_right _ h)
  have L2 : ∀ (n : Nat) (x1 : Int32) (x2 : Int32) (mm : (Nat → Int32)) (x3 : Int32), fuel (fun _ => none) (B_X4_breaksLeast_2 x1 x2 mm) n x3 = some u_mm → 
      ∀ (H : Heap) (locs : List Loc) (ls : Array Slot), va_P D vwCl (cM a cI ss mm im wa hi le ro re lm rm pl nu gi bg bm sd) H → va_D A (cM a cI ss mm im wa hi le ro re lm rm pl nu gi bg bm sd) → va_S A s.heap H locs → lv_has ls 4 [(0, .ref (a 0)), (1, .int x1), (2, .int x2), (3, .int x3)] → W p l e { frames := 2, cells := 0, slots := 0, locals := 41 } s m args below meth c H locs 0 0 Q (F0 m 2 ls []) := by
    intro n
    induction n with
    | zero =>
      intro x1 x2 mm x3 h
      exact nomatch (show (none : Option ((Nat → Int32))) = some u_mm from h)
    | succ n ih =>
      intro x1 x2 mm x3 h  H locs ls hP hD hS hl
      replace h : B_X4_breaksLeast_2 x1 x2 mm (fuel (fun _ => none) (B_X4_breaksLeast_2 x1 x2 mm) n) x3 = some u_mm := h
      unfold B_X4_breaksLeast_2 at h
      refine lv_iload_n hx hb dX4_breaksLeast_2 rfl (lv_at hl 3 rfl) ?_
      refine lv_aload_n hx hb dX4_breaksLeast_3 rfl (lv_at hl 0 rfl) ?_
      refine va_get (D := D) (ci := 4) (v := .ref (a 2)) (C := RX4) (T := TX4) (N := 16) hx hb hts i4 hown hK hP 0 rfl rfl 1 (by decide) f13 (fun _ h9 => h9) rfl dX4_breaksLeast_4 ?_
      refine lv_iconst (v := 1) hx hb dX4_breaksLeast_7 (by decide) ?_
      refine ald (n := 61) (f := mm) (k := 1) hx hb hK hP 2 0 rfl rfl (fx_lit rfl) rfl dX4_breaksLeast_8 ?_
      refine lv_icmp_ge (tgt := 60) hx hb dX4_breaksLeast_9 (by decide) (fun c9 => ?_) (fun c9 => ?_)
      · replace h := fx_ite_t c9 h
        obtain rfl := rtv1 h
        exact rV hQ hx hb hr hlocks hAe hP hS dX4_breaksLeast_60
      · replace h := fx_ite_f c9 h
        refine lv_aload_n hx hb dX4_breaksLeast_12 rfl (lv_at hl 0 rfl) ?_
        refine va_get (D := D) (ci := 4) (v := .ref (a 2)) (C := RX4) (T := TX4) (N := 16) hx hb hts i4 hown hK hP 0 rfl rfl 1 (by decide) f13 (fun _ h9 => h9) rfl dX4_breaksLeast_13 ?_
        refine lv_iload_n hx hb dX4_breaksLeast_16 rfl (lv_at hl 3 rfl) ?_
        obtain ⟨r17, q17, h⟩ := bnd1_inv h
        refine kSI (n := 2) (As := [.ref (a 2), .int x3]) (rest := []) CF hl hK hP hD hS hA (c_X4_isWhole l D cI (a 2) mm x3 r17 q17) gX4_breaksLeast_X4_isWhole rfl dX4_breaksLeast_17 (by decide +kernel) ⟨⟨rfl, rfl⟩, ⟨Nat.le_of_ble_eq_true rfl, Nat.le_of_ble_eq_true rfl⟩, Nat.zero_le _, Nat.zero_le _⟩ (JN.ro [2] rfl rfl) rfl rfl (Nat.le_of_ble_eq_true rfl) (fun H locs hP hD hS => ?_)
        refine lv_if_eq (tgt := 54) hx hb dX4_breaksLeast_20 (by decide) (fun c20 => ?_) (fun c20 => ?_)
        · replace h := fx_ite_t c20 h
          refine lv_iinc (v := (x3 + 1)) (lv' := [(3, .int (x3 + 1)), (0, .ref (a 0)), (1, .int x1), (2, .int x2)]) hx hb dX4_breaksLeast_54 hl (k := 3) rfl (by first | rfl | decide) (by decide) rfl (fun ls hl => ?_)
          refine lv_goto (tgt := 2) hx hb dX4_breaksLeast_57 (by decide) ?_
          exact ih _ _ _ _ h  _ _ _ hP hD hS (lv_sub hl [1, 2, 3, 0] rfl)
        · replace h := fx_ite_f c20 h
          refine lv_aload_n hx hb dX4_breaksLeast_23 rfl (lv_at hl 0 rfl) ?_
          refine va_get (D := D) (ci := 4) (v := .ref (a 2)) (C := RX4) (T := TX4) (N := 16) hx hb hts i4 hown hK hP 0 rfl rfl 1 (by decide) f13 (fun _ h9 => h9) rfl dX4_breaksLeast_24 ?_
          refine lv_iload_n hx hb dX4_breaksLeast_27 rfl (lv_at hl 3 rfl) ?_
          obtain ⟨r28, q28, h⟩ := bnd1_inv h
          refine kSI (n := 1) (As := [.int x3]) (rest := [.ref (a 2)]) CF hl hK hP hD hS hA (c_X4_ofT l D cI   x3 r28 q28) gX4_breaksLeast_X4_ofT rfl dX4_breaksLeast_28 (by decide +kernel) ⟨⟨rfl, rfl⟩, ⟨Nat.le_of_ble_eq_true rfl, Nat.le_of_ble_eq_true rfl⟩, Nat.zero_le _, Nat.zero_le _⟩ (JN.ro [] rfl rfl) rfl rfl (Nat.le_of_ble_eq_true rfl) (fun H locs hP hD hS => ?_)
          refine lv_iconst (v := 2) hx hb dX4_breaksLeast_31 (by decide) ?_
          refine lv_iadd hx hb dX4_breaksLeast_32 ?_
          obtain ⟨g33, h⟩ := chk_inv h
          refine va_iald (n := 61) (f := mm) hx hb hK hP 2 0 rfl rfl g33 dX4_breaksLeast_33 ?_
          refine lv_iload_n hx hb dX4_breaksLeast_34 rfl (lv_at hl 2 rfl) ?_
          refine lv_icmp_eq (tgt := 41) hx hb dX4_breaksLeast_35 (by decide) (fun c35 => ?_) (fun c35 => ?_)
          · replace h := fx_ite_t c35 h
            refine lv_aload_n hx hb dX4_breaksLeast_41 rfl (lv_at hl 0 rfl) ?_
            refine va_get (D := D) (ci := 4) (v := .ref (a 2)) (C := RX4) (T := TX4) (N := 16) hx hb hts i4 hown hK hP 0 rfl rfl 1 (by decide) f13 (fun _ h9 => h9) rfl dX4_breaksLeast_42 ?_
            refine lv_iload_n hx hb dX4_breaksLeast_45 rfl (lv_at hl 3 rfl) ?_
            obtain ⟨r46, q46, h⟩ := bnd1_inv h
            refine kSI (n := 1) (As := [.int x3]) (rest := [.ref (a 2)]) CF hl hK hP hD hS hA (c_X4_ofT l D cI   x3 r46 q46) gX4_breaksLeast_X4_ofT rfl dX4_breaksLeast_46 (by decide +kernel) ⟨⟨rfl, rfl⟩, ⟨Nat.le_of_ble_eq_true rfl, Nat.le_of_ble_eq_true rfl⟩, Nat.zero_le _, Nat.zero_le _⟩ (JN.ro [] rfl rfl) rfl rfl (Nat.le_of_ble_eq_true rfl) (fun H locs hP hD hS => ?_)
            refine lv_iconst (v := 4) hx hb dX4_breaksLeast_49 (by decide) ?_
            refine lv_iadd hx hb dX4_breaksLeast_50 ?_
            refine lv_iload_n hx hb dX4_breaksLeast_51 rfl (lv_at hl 1 rfl) ?_
            obtain ⟨g52, h⟩ := chk_inv h
            refine va_iast (n := 61) (f := mm) hx hb hK hP hD hS 2 0 rfl rfl g52 dX4_breaksLeast_52 (fun H locs hP hD hS => ?_)
            replace hP : va_P D vwCl (cM a cI ss (upd mm (Int32.toNatClampNeg (r46 + (4 : Int32))) x1) im wa hi le ro re lm rm pl nu gi bg bm sd) H := hP
            replace hD : va_D A (cM a cI ss (upd mm (Int32.toNatClampNeg (r46 + (4 : Int32))) x1) im wa hi le ro re lm rm pl nu gi bg bm sd) := hD
            obtain rfl := rtv1 h
            exact rV hQ hx hb hr hlocks hAe hP hS dX4_breaksLeast_53
          · replace h := fx_ite_f c35 h
            refine lv_goto (tgt := 54) hx hb dX4_breaksLeast_38 (by decide) ?_
            refine lv_iinc (v := (x3 + 1)) (lv' := [(3, .int (x3 + 1)), (0, .ref (a 0)), (1, .int x1), (2, .int x2)]) hx hb dX4_breaksLeast_54 hl (k := 3) rfl (by first | rfl | decide) (by decide) rfl (fun ls hl => ?_)
            refine lv_goto (tgt := 2) hx hb dX4_breaksLeast_57 (by decide) ?_
            exact ih _ _ _ _ h  _ _ _ hP hD hS (lv_sub hl [1, 2, 3, 0] rfl)
  unfold M_X4_breaksLeast at h
  refine lv_iconst (v := 0) hx hb dX4_breaksLeast_0 (by decide) ?_
  refine lv_istore_n (lv' := [(3, .int (0 : Int32)), (0, .ref (a 0)), (1, .int p1), (2, .int p2)]) hx hb dX4_breaksLeast_1 rfl hl (by decide) rfl (fun ls hl => ?_)
  exact L2 FU _ _ _ _ h  _ _ _ hP hD hS (lv_sub hl [1, 2, 3, 0] rfl)
/-! X4_ownBy -/
set_option maxHeartbeats 4000000 in
set_option maxRecDepth 100000 in
theorem c_X4_ownBy (l : Launch) (D : va_G) (cI : ClassId) (a : Nat → Nat) (ss : (Nat → Int32)) (mm : (Nat → Int32)) (im : (Nat → Int32)) (wa : (Nat → Int32)) (hi : Int32) (le : (Nat → Int32)) (ro : (Nat → Int32)) (re : (Nat → Int32)) (lm : Int32) (rm : Int32) (pl : Int32) (nu : (Nat → Int32)) (gi : (Nat → Int32)) (bg : (Nat → Int32)) (bm : Int32) (sd : Int32) (p1 : Int32) (p2 : Int32) (p3 : Int32) (p4 : Int32) (p5 : Int32) (p6 : Int32) (res : Int32) (u_mm : (Nat → Int32)) (h : M_X4_ownBy ss mm p1 p2 p3 p4 p5 p6 = some (res, u_mm)) : mI l yX4_ownBy wsX4_ownBy { frames := 7, cells := 0, slots := 0, locals := 154 } D cI [.ref (a 0), .int p1, .int p2, .int p3, .int p4, .int p5, .int p6] (cM a cI ss mm im wa hi le ro re lm rm pl nu gi bg bm sd) (cM a cI ss u_mm im wa hi le ro re lm rm pl nu gi bg bm sd) res := by
  intro sz
  refine mStart (cc := cX4_ownBy) (maxL := 9) (ret := (some .int)) (own := RX4) (by decide) rfl rfl (Nat.le_of_ble_eq_true rfl) (lv := [(0, .ref (a 0)), (1, .int p1), (2, .int p2), (3, .int p3), (4, .int p4), (5, .int p5), (6, .int p6)]) rfl ?_
  intro p e s m args below meth c A ls Q H locs CF hr hlocks hK hP hD hS hA hAe hl hQ
  obtain ⟨hx, hb, hml, hown, hts⟩ := id CF
  have f9 := hts (.fieldLink RX4 9 "MendAnothersBreakingModel" "s" "[I") (List.mem_of_getElem? (i := 1) rfl)
  have f13 := hts (.fieldLink RX4 13 "MendAnothersBreakingModel" "m" "[I") (List.mem_of_getElem? (i := 2) rfl)
  have i4 : ∀ w ∈ wsX40, w ∈ wsX4_ownBy := fun w h => List.mem_cons_of_mem _ (List.mem_append_right _ h)
  have L51 : ∀ (n : Nat) (x1 : Int32) (mm : (Nat → Int32)) (x7 : Int32) (x8 : Int32), fuel (fun _ _ => none) (B_X4_ownBy_51 x1 ss mm) n x7 x8 = some (res, u_mm) → 
      ∀ (H : Heap) (locs : List Loc) (ls : Array Slot), va_P D vwCl (cM a cI ss mm im wa hi le ro re lm rm pl nu gi bg bm sd) H → va_D A (cM a cI ss mm im wa hi le ro re lm rm pl nu gi bg bm sd) → va_S A s.heap H locs → lv_has ls 9 [(0, .ref (a 0)), (1, .int x1), (7, .int x7), (8, .int x8)] → W p l e { frames := 7, cells := 0, slots := 0, locals := 154 } s m args below meth c H locs 0 0 Q (F0 m 51 ls []) := by
    intro n
    induction n with
    | zero =>
      intro x1 mm x7 x8 h
      exact nomatch (show (none : Option (Int32 × (Nat → Int32))) = some (res, u_mm) from h)
    | succ n ih =>
      intro x1 mm x7 x8 h  H locs ls hP hD hS hl
      replace h : B_X4_ownBy_51 x1 ss mm (fuel (fun _ _ => none) (B_X4_ownBy_51 x1 ss mm) n) x7 x8 = some (res, u_mm) := h
      unfold B_X4_ownBy_51 at h
      refine lv_iload hx hb dX4_ownBy_51 (lv_at hl 3 rfl) ?_
      refine lv_aload_n hx hb dX4_ownBy_53 rfl (lv_at hl 0 rfl) ?_
      refine va_get (D := D) (ci := 4) (v := .ref (a 2)) (C := RX4) (T := TX4) (N := 16) hx hb hts i4 hown hK hP 0 rfl rfl 1 (by decide) f13 (fun _ h9 => h9) rfl dX4_ownBy_54 ?_
      refine lv_iconst (v := 1) hx hb dX4_ownBy_57 (by decide) ?_
      refine ald (n := 61) (f := mm) (k := 1) hx hb hK hP 2 0 rfl rfl (fx_lit rfl) rfl dX4_ownBy_58 ?_
      refine lv_icmp_ge (tgt := 106) hx hb dX4_ownBy_59 (by decide) (fun c59 => ?_) (fun c59 => ?_)
      · replace h := fx_ite_t c59 h
        refine lv_iload hx hb dX4_ownBy_106 (lv_at hl 2 rfl) ?_
        obtain ⟨rfl, rfl⟩ := rtv2 h
        exact rI hQ hx hb hr hlocks hAe hP hS rfl rfl dX4_ownBy_108
      · replace h := fx_ite_f c59 h
        refine lv_iload hx hb dX4_ownBy_62 (lv_at hl 2 rfl) ?_
        refine lv_aload_n hx hb dX4_ownBy_64 rfl (lv_at hl 0 rfl) ?_
        refine va_get (D := D) (ci := 4) (v := .ref (a 2)) (C := RX4) (T := TX4) (N := 16) hx hb hts i4 hown hK hP 0 rfl rfl 1 (by decide) f13 (fun _ h9 => h9) rfl dX4_ownBy_65 ?_
        refine lv_iload hx hb dX4_ownBy_68 (lv_at hl 3 rfl) ?_
        obtain ⟨r70, q70, h⟩ := bnd1_inv h
        refine kSI (n := 2) (As := [.ref (a 2), .int x8]) (rest := [.int x7]) CF hl hK hP hD hS hA (c_X4_isWhole l D cI (a 2) mm x8 r70 q70) gX4_ownBy_X4_isWhole rfl dX4_ownBy_70 (by decide +kernel) ⟨⟨rfl, rfl⟩, ⟨Nat.le_of_ble_eq_true rfl, Nat.le_of_ble_eq_true rfl⟩, Nat.zero_le _, Nat.zero_le _⟩ (JN.ro [2] rfl rfl) rfl rfl (Nat.le_of_ble_eq_true rfl) (fun H locs hP hD hS => ?_)
        refine lv_if_eq (tgt := 96) hx hb dX4_ownBy_73 (by decide) (fun c73 => ?_) (fun c73 => ?_)
        · replace h := fx_ite_t c73 h
          refine lv_iconst (v := 0) hx hb dX4_ownBy_96 (by decide) ?_
          refine lv_iadd hx hb dX4_ownBy_97 ?_
          refine lv_istore (lv' := [(7, .int (x7 + (0 : Int32))), (0, .ref (a 0)), (1, .int x1), (8, .int x8)]) hx hb dX4_ownBy_98 hl (by decide) rfl (fun ls hl => ?_)
          refine lv_iinc (v := (x8 + 1)) (lv' := [(8, .int (x8 + 1)), (7, .int (x7 + (0 : Int32))), (0, .ref (a 0)), (1, .int x1)]) hx hb dX4_ownBy_100 hl (k := 3) rfl (by first | rfl | decide) (by decide) rfl (fun ls hl => ?_)
          refine lv_goto (tgt := 51) hx hb dX4_ownBy_103 (by decide) ?_
          exact ih _ _ _ _ h  _ _ _ hP hD hS (lv_sub hl [2, 3, 1, 0] rfl)
        · replace h := fx_ite_f c73 h
          refine lv_aload_n hx hb dX4_ownBy_76 rfl (lv_at hl 0 rfl) ?_
          refine va_get (D := D) (ci := 4) (v := .ref (a 2)) (C := RX4) (T := TX4) (N := 16) hx hb hts i4 hown hK hP 0 rfl rfl 1 (by decide) f13 (fun _ h9 => h9) rfl dX4_ownBy_77 ?_
          refine lv_iload hx hb dX4_ownBy_80 (lv_at hl 3 rfl) ?_
          obtain ⟨r82, q82, h⟩ := bnd1_inv h
          refine kSI (n := 1) (As := [.int x8]) (rest := [.ref (a 2), .int x7]) CF hl hK hP hD hS hA (c_X4_ofT l D cI   x8 r82 q82) gX4_ownBy_X4_ofT rfl dX4_ownBy_82 (by decide +kernel) ⟨⟨rfl, rfl⟩, ⟨Nat.le_of_ble_eq_true rfl, Nat.le_of_ble_eq_true rfl⟩, Nat.zero_le _, Nat.zero_le _⟩ (JN.ro [] rfl rfl) rfl rfl (Nat.le_of_ble_eq_true rfl) (fun H locs hP hD hS => ?_)
          refine lv_iconst (v := 2) hx hb dX4_ownBy_85 (by decide) ?_
          refine lv_iadd hx hb dX4_ownBy_86 ?_
          obtain ⟨g87, h⟩ := chk_inv h
          refine va_iald (n := 61) (f := mm) hx hb hK hP 2 0 rfl rfl g87 dX4_ownBy_87 ?_
          refine lv_iload_n hx hb dX4_ownBy_88 rfl (lv_at hl 1 rfl) ?_
          refine lv_icmp_ne (tgt := 96) hx hb dX4_ownBy_89 (by decide) (fun c89 => ?_) (fun c89 => ?_)
          · replace h := fx_ite_f c89 h
            refine lv_iconst (v := 0) hx hb dX4_ownBy_96 (by decide) ?_
            refine lv_iadd hx hb dX4_ownBy_97 ?_
            refine lv_istore (lv' := [(7, .int (x7 + (0 : Int32))), (0, .ref (a 0)), (1, .int x1), (8, .int x8)]) hx hb dX4_ownBy_98 hl (by decide) rfl (fun ls hl => ?_)
            refine lv_iinc (v := (x8 + 1)) (lv' := [(8, .int (x8 + 1)), (7, .int (x7 + (0 : Int32))), (0, .ref (a 0)), (1, .int x1)]) hx hb dX4_ownBy_100 hl (k := 3) rfl (by first | rfl | decide) (by decide) rfl (fun ls hl => ?_)
            refine lv_goto (tgt := 51) hx hb dX4_ownBy_103 (by decide) ?_
            exact ih _ _ _ _ h  _ _ _ hP hD hS (lv_sub hl [2, 3, 1, 0] rfl)
          · replace h := fx_ite_t c89 h
            refine lv_iconst (v := 1) hx hb dX4_ownBy_92 (by decide) ?_
            refine lv_goto (tgt := 97) hx hb dX4_ownBy_93 (by decide) ?_
            refine lv_iadd hx hb dX4_ownBy_97 ?_
            refine lv_istore (lv' := [(7, .int (x7 + (1 : Int32))), (0, .ref (a 0)), (1, .int x1), (8, .int x8)]) hx hb dX4_ownBy_98 hl (by decide) rfl (fun ls hl => ?_)
            refine lv_iinc (v := (x8 + 1)) (lv' := [(8, .int (x8 + 1)), (7, .int (x7 + (1 : Int32))), (0, .ref (a 0)), (1, .int x1)]) hx hb dX4_ownBy_100 hl (k := 3) rfl (by first | rfl | decide) (by decide) rfl (fun ls hl => ?_)
            refine lv_goto (tgt := 51) hx hb dX4_ownBy_103 (by decide) ?_
            exact ih _ _ _ _ h  _ _ _ hP hD hS (lv_sub hl [2, 3, 1, 0] rfl)
  unfold M_X4_ownBy at h
  refine lv_aload_n hx hb dX4_ownBy_0 rfl (lv_at hl 0 rfl) ?_
  refine va_get (D := D) (ci := 4) (v := .ref (a 1)) (C := RX4) (T := TX4) (N := 16) hx hb hts i4 hown hK hP 0 rfl rfl 0 (by decide) f9 (fun _ h9 => h9) rfl dX4_ownBy_1 ?_
  refine lv_aload_n hx hb dX4_ownBy_4 rfl (lv_at hl 0 rfl) ?_
  refine va_get (D := D) (ci := 4) (v := .ref (a 2)) (C := RX4) (T := TX4) (N := 16) hx hb hts i4 hown hK hP 0 rfl rfl 1 (by decide) f13 (fun _ h9 => h9) rfl dX4_ownBy_5 ?_
  obtain ⟨u8_mm, q8, h⟩ := bnd1_inv h
  refine kSV (n := 2) (As := [.ref (a 1), .ref (a 2)]) (rest := []) CF hl hK hP hD hS hA (c_X4_copies l D cI (a 1) (a 2) ss mm  u8_mm q8) gX4_ownBy_X4_copies rfl dX4_ownBy_8 (by decide +kernel) ⟨⟨rfl, rfl⟩, ⟨Nat.le_of_ble_eq_true rfl, Nat.le_of_ble_eq_true rfl⟩, Nat.zero_le _, Nat.zero_le _⟩ (JN.sub (wst' := (cM a cI ss u8_mm im wa hi le ro re lm rm pl nu gi bg bm sd)) [1, 2] rfl rfl rfl rfl) rfl rfl (Nat.le_of_ble_eq_true rfl) (fun H locs hP hD hS => ?_)
  replace hP : va_P D vwCl (cM a cI ss u8_mm im wa hi le ro re lm rm pl nu gi bg bm sd) H := hP
  replace hD : va_D A (cM a cI ss u8_mm im wa hi le ro re lm rm pl nu gi bg bm sd) := hD
  refine lv_iload_n hx hb dX4_ownBy_11 rfl (lv_at hl 3 rfl) ?_
  refine lv_iconst (v := 1) hx hb dX4_ownBy_12 (by decide) ?_
  refine lv_icmp_ne (tgt := 23) hx hb dX4_ownBy_13 (by decide) (fun c13 => ?_) (fun c13 => ?_)
  · replace h := fx_ite_f c13 h
    refine lv_iload hx hb dX4_ownBy_23 (lv_at hl 5 rfl) ?_
    refine lv_iconst (v := 1) hx hb dX4_ownBy_25 (by decide) ?_
    refine lv_icmp_ne (tgt := 36) hx hb dX4_ownBy_26 (by decide) (fun c26 => ?_) (fun c26 => ?_)
    · replace h := fx_ite_f c26 h
      refine lv_aload_n hx hb dX4_ownBy_36 rfl (lv_at hl 0 rfl) ?_
      refine va_get (D := D) (ci := 4) (v := .ref (a 2)) (C := RX4) (T := TX4) (N := 16) hx hb hts i4 hown hK hP 0 rfl rfl 1 (by decide) f13 (fun _ h9 => h9) rfl dX4_ownBy_37 ?_
      refine lv_iload hx hb dX4_ownBy_40 (lv_at hl 6 rfl) ?_
      obtain ⟨u42_mm, q42, h⟩ := bnd1_inv h
      refine kSV (n := 2) (As := [.ref (a 2), .int p6]) (rest := []) CF hl hK hP hD hS hA (c_X4_daysOn l D cI (a 2) u8_mm p6 u42_mm q42) gX4_ownBy_X4_daysOn rfl dX4_ownBy_42 (by decide +kernel) ⟨⟨rfl, rfl⟩, ⟨Nat.le_of_ble_eq_true rfl, Nat.le_of_ble_eq_true rfl⟩, Nat.zero_le _, Nat.zero_le _⟩ (JN.sub (wst' := (cM a cI ss u42_mm im wa hi le ro re lm rm pl nu gi bg bm sd)) [2] rfl rfl rfl rfl) rfl rfl (Nat.le_of_ble_eq_true rfl) (fun H locs hP hD hS => ?_)
      replace hP : va_P D vwCl (cM a cI ss u42_mm im wa hi le ro re lm rm pl nu gi bg bm sd) H := hP
      replace hD : va_D A (cM a cI ss u42_mm im wa hi le ro re lm rm pl nu gi bg bm sd) := hD
      refine lv_iconst (v := 0) hx hb dX4_ownBy_45 (by decide) ?_
      refine lv_istore (lv' := [(7, .int (0 : Int32)), (0, .ref (a 0)), (1, .int p1), (2, .int p2), (3, .int p3), (4, .int p4), (5, .int p5), (6, .int p6)]) hx hb dX4_ownBy_46 hl (by decide) rfl (fun ls hl => ?_)
      refine lv_iconst (v := 0) hx hb dX4_ownBy_48 (by decide) ?_
      refine lv_istore (lv' := [(8, .int (0 : Int32)), (7, .int (0 : Int32)), (0, .ref (a 0)), (1, .int p1), (2, .int p2), (3, .int p3), (4, .int p4), (5, .int p5), (6, .int p6)]) hx hb dX4_ownBy_49 hl (by decide) rfl (fun ls hl => ?_)
      exact L51 FU _ _ _ _ h  _ _ _ hP hD hS (lv_sub hl [2, 3, 1, 0] rfl)
    · replace h := fx_ite_t c26 h
      refine lv_aload_n hx hb dX4_ownBy_29 rfl (lv_at hl 0 rfl) ?_
      refine lv_iload hx hb dX4_ownBy_30 (lv_at hl 4 rfl) ?_
      refine lv_iload_n hx hb dX4_ownBy_32 rfl (lv_at hl 2 rfl) ?_
      obtain ⟨u33_mm, q33, h⟩ := bnd1_inv h
      refine kVV (n := 2) (As := [.int p4, .int p2]) (rest := []) CF hl hK hP hD hS hA (c_X4_breaksLeast l D cI a ss u8_mm im wa hi le ro re lm rm pl nu gi bg bm sd p4 p2 u33_mm q33) gX4_ownBy_X4_breaksLeast rfl dX4_ownBy_33 (by decide +kernel) ⟨⟨rfl, rfl⟩, ⟨Nat.le_of_ble_eq_true rfl, Nat.le_of_ble_eq_true rfl⟩, Nat.zero_le _, Nat.zero_le _⟩ (JN.whole (w1 := (cM a cI ss u33_mm im wa hi le ro re lm rm pl nu gi bg bm sd)) rfl) 0 rfl ⟨rfl, rfl⟩ rfl rfl (Nat.le_of_ble_eq_true rfl) (fun H locs hP hD hS => ?_)
      replace hP : va_P D vwCl (cM a cI ss u33_mm im wa hi le ro re lm rm pl nu gi bg bm sd) H := hP
      replace hD : va_D A (cM a cI ss u33_mm im wa hi le ro re lm rm pl nu gi bg bm sd) := hD
      refine lv_aload_n hx hb dX4_ownBy_36 rfl (lv_at hl 0 rfl) ?_
      refine va_get (D := D) (ci := 4) (v := .ref (a 2)) (C := RX4) (T := TX4) (N := 16) hx hb hts i4 hown hK hP 0 rfl rfl 1 (by decide) f13 (fun _ h9 => h9) rfl dX4_ownBy_37 ?_
      refine lv_iload hx hb dX4_ownBy_40 (lv_at hl 6 rfl) ?_
      obtain ⟨u42_mm, q42, h⟩ := bnd1_inv h
      refine kSV (n := 2) (As := [.ref (a 2), .int p6]) (rest := []) CF hl hK hP hD hS hA (c_X4_daysOn l D cI (a 2) u33_mm p6 u42_mm q42) gX4_ownBy_X4_daysOn rfl dX4_ownBy_42 (by decide +kernel) ⟨⟨rfl, rfl⟩, ⟨Nat.le_of_ble_eq_true rfl, Nat.le_of_ble_eq_true rfl⟩, Nat.zero_le _, Nat.zero_le _⟩ (JN.sub (wst' := (cM a cI ss u42_mm im wa hi le ro re lm rm pl nu gi bg bm sd)) [2] rfl rfl rfl rfl) rfl rfl (Nat.le_of_ble_eq_true rfl) (fun H locs hP hD hS => ?_)
      replace hP : va_P D vwCl (cM a cI ss u42_mm im wa hi le ro re lm rm pl nu gi bg bm sd) H := hP
      replace hD : va_D A (cM a cI ss u42_mm im wa hi le ro re lm rm pl nu gi bg bm sd) := hD
      refine lv_iconst (v := 0) hx hb dX4_ownBy_45 (by decide) ?_
      refine lv_istore (lv' := [(7, .int (0 : Int32)), (0, .ref (a 0)), (1, .int p1), (2, .int p2), (3, .int p3), (4, .int p4), (5, .int p5), (6, .int p6)]) hx hb dX4_ownBy_46 hl (by decide) rfl (fun ls hl => ?_)
      refine lv_iconst (v := 0) hx hb dX4_ownBy_48 (by decide) ?_
      refine lv_istore (lv' := [(8, .int (0 : Int32)), (7, .int (0 : Int32)), (0, .ref (a 0)), (1, .int p1), (2, .int p2), (3, .int p3), (4, .int p4), (5, .int p5), (6, .int p6)]) hx hb dX4_ownBy_49 hl (by decide) rfl (fun ls hl => ?_)
      exact L51 FU _ _ _ _ h  _ _ _ hP hD hS (lv_sub hl [2, 3, 1, 0] rfl)
  · replace h := fx_ite_t c13 h
    refine lv_aload_n hx hb dX4_ownBy_16 rfl (lv_at hl 0 rfl) ?_
    refine lv_iload_n hx hb dX4_ownBy_17 rfl (lv_at hl 2 rfl) ?_
    refine lv_iload hx hb dX4_ownBy_18 (lv_at hl 4 rfl) ?_
    obtain ⟨u20_mm, q20, h⟩ := bnd1_inv h
    refine kVV (n := 2) (As := [.int p2, .int p4]) (rest := []) CF hl hK hP hD hS hA (c_X4_breaksLeast l D cI a ss u8_mm im wa hi le ro re lm rm pl nu gi bg bm sd p2 p4 u20_mm q20) gX4_ownBy_X4_breaksLeast rfl dX4_ownBy_20 (by decide +kernel) ⟨⟨rfl, rfl⟩, ⟨Nat.le_of_ble_eq_true rfl, Nat.le_of_ble_eq_true rfl⟩, Nat.zero_le _, Nat.zero_le _⟩ (JN.whole (w1 := (cM a cI ss u20_mm im wa hi le ro re lm rm pl nu gi bg bm sd)) rfl) 0 rfl ⟨rfl, rfl⟩ rfl rfl (Nat.le_of_ble_eq_true rfl) (fun H locs hP hD hS => ?_)
    replace hP : va_P D vwCl (cM a cI ss u20_mm im wa hi le ro re lm rm pl nu gi bg bm sd) H := hP
    replace hD : va_D A (cM a cI ss u20_mm im wa hi le ro re lm rm pl nu gi bg bm sd) := hD
    refine lv_iload hx hb dX4_ownBy_23 (lv_at hl 5 rfl) ?_
    refine lv_iconst (v := 1) hx hb dX4_ownBy_25 (by decide) ?_
    refine lv_icmp_ne (tgt := 36) hx hb dX4_ownBy_26 (by decide) (fun c26 => ?_) (fun c26 => ?_)
    · replace h := fx_ite_f c26 h
      refine lv_aload_n hx hb dX4_ownBy_36 rfl (lv_at hl 0 rfl) ?_
      refine va_get (D := D) (ci := 4) (v := .ref (a 2)) (C := RX4) (T := TX4) (N := 16) hx hb hts i4 hown hK hP 0 rfl rfl 1 (by decide) f13 (fun _ h9 => h9) rfl dX4_ownBy_37 ?_
      refine lv_iload hx hb dX4_ownBy_40 (lv_at hl 6 rfl) ?_
      obtain ⟨u42_mm, q42, h⟩ := bnd1_inv h
      refine kSV (n := 2) (As := [.ref (a 2), .int p6]) (rest := []) CF hl hK hP hD hS hA (c_X4_daysOn l D cI (a 2) u20_mm p6 u42_mm q42) gX4_ownBy_X4_daysOn rfl dX4_ownBy_42 (by decide +kernel) ⟨⟨rfl, rfl⟩, ⟨Nat.le_of_ble_eq_true rfl, Nat.le_of_ble_eq_true rfl⟩, Nat.zero_le _, Nat.zero_le _⟩ (JN.sub (wst' := (cM a cI ss u42_mm im wa hi le ro re lm rm pl nu gi bg bm sd)) [2] rfl rfl rfl rfl) rfl rfl (Nat.le_of_ble_eq_true rfl) (fun H locs hP hD hS => ?_)
      replace hP : va_P D vwCl (cM a cI ss u42_mm im wa hi le ro re lm rm pl nu gi bg bm sd) H := hP
      replace hD : va_D A (cM a cI ss u42_mm im wa hi le ro re lm rm pl nu gi bg bm sd) := hD
      refine lv_iconst (v := 0) hx hb dX4_ownBy_45 (by decide) ?_
      refine lv_istore (lv' := [(7, .int (0 : Int32)), (0, .ref (a 0)), (1, .int p1), (2, .int p2), (3, .int p3), (4, .int p4), (5, .int p5), (6, .int p6)]) hx hb dX4_ownBy_46 hl (by decide) rfl (fun ls hl => ?_)
      refine lv_iconst (v := 0) hx hb dX4_ownBy_48 (by decide) ?_
      refine lv_istore (lv' := [(8, .int (0 : Int32)), (7, .int (0 : Int32)), (0, .ref (a 0)), (1, .int p1), (2, .int p2), (3, .int p3), (4, .int p4), (5, .int p5), (6, .int p6)]) hx hb dX4_ownBy_49 hl (by decide) rfl (fun ls hl => ?_)
      exact L51 FU _ _ _ _ h  _ _ _ hP hD hS (lv_sub hl [2, 3, 1, 0] rfl)
    · replace h := fx_ite_t c26 h
      refine lv_aload_n hx hb dX4_ownBy_29 rfl (lv_at hl 0 rfl) ?_
      refine lv_iload hx hb dX4_ownBy_30 (lv_at hl 4 rfl) ?_
      refine lv_iload_n hx hb dX4_ownBy_32 rfl (lv_at hl 2 rfl) ?_
      obtain ⟨u33_mm, q33, h⟩ := bnd1_inv h
      refine kVV (n := 2) (As := [.int p4, .int p2]) (rest := []) CF hl hK hP hD hS hA (c_X4_breaksLeast l D cI a ss u20_mm im wa hi le ro re lm rm pl nu gi bg bm sd p4 p2 u33_mm q33) gX4_ownBy_X4_breaksLeast rfl dX4_ownBy_33 (by decide +kernel) ⟨⟨rfl, rfl⟩, ⟨Nat.le_of_ble_eq_true rfl, Nat.le_of_ble_eq_true rfl⟩, Nat.zero_le _, Nat.zero_le _⟩ (JN.whole (w1 := (cM a cI ss u33_mm im wa hi le ro re lm rm pl nu gi bg bm sd)) rfl) 0 rfl ⟨rfl, rfl⟩ rfl rfl (Nat.le_of_ble_eq_true rfl) (fun H locs hP hD hS => ?_)
      replace hP : va_P D vwCl (cM a cI ss u33_mm im wa hi le ro re lm rm pl nu gi bg bm sd) H := hP
      replace hD : va_D A (cM a cI ss u33_mm im wa hi le ro re lm rm pl nu gi bg bm sd) := hD
      refine lv_aload_n hx hb dX4_ownBy_36 rfl (lv_at hl 0 rfl) ?_
      refine va_get (D := D) (ci := 4) (v := .ref (a 2)) (C := RX4) (T := TX4) (N := 16) hx hb hts i4 hown hK hP 0 rfl rfl 1 (by decide) f13 (fun _ h9 => h9) rfl dX4_ownBy_37 ?_
      refine lv_iload hx hb dX4_ownBy_40 (lv_at hl 6 rfl) ?_
      obtain ⟨u42_mm, q42, h⟩ := bnd1_inv h
      refine kSV (n := 2) (As := [.ref (a 2), .int p6]) (rest := []) CF hl hK hP hD hS hA (c_X4_daysOn l D cI (a 2) u33_mm p6 u42_mm q42) gX4_ownBy_X4_daysOn rfl dX4_ownBy_42 (by decide +kernel) ⟨⟨rfl, rfl⟩, ⟨Nat.le_of_ble_eq_true rfl, Nat.le_of_ble_eq_true rfl⟩, Nat.zero_le _, Nat.zero_le _⟩ (JN.sub (wst' := (cM a cI ss u42_mm im wa hi le ro re lm rm pl nu gi bg bm sd)) [2] rfl rfl rfl rfl) rfl rfl (Nat.le_of_ble_eq_true rfl) (fun H locs hP hD hS => ?_)
      replace hP : va_P D vwCl (cM a cI ss u42_mm im wa hi le ro re lm rm pl nu gi bg bm sd) H := hP
      replace hD : va_D A (cM a cI ss u42_mm im wa hi le ro re lm rm pl nu gi bg bm sd) := hD
      refine lv_iconst (v := 0) hx hb dX4_ownBy_45 (by decide) ?_
      refine lv_istore (lv' := [(7, .int (0 : Int32)), (0, .ref (a 0)), (1, .int p1), (2, .int p2), (3, .int p3), (4, .int p4), (5, .int p5), (6, .int p6)]) hx hb dX4_ownBy_46 hl (by decide) rfl (fun ls hl => ?_)
      refine lv_iconst (v := 0) hx hb dX4_ownBy_48 (by decide) ?_
      refine lv_istore (lv' := [(8, .int (0 : Int32)), (7, .int (0 : Int32)), (0, .ref (a 0)), (1, .int p1), (2, .int p2), (3, .int p3), (4, .int p4), (5, .int p5), (6, .int p6)]) hx hb dX4_ownBy_49 hl (by decide) rfl (fun ls hl => ?_)
      exact L51 FU _ _ _ _ h  _ _ _ hP hD hS (lv_sub hl [2, 3, 1, 0] rfl)
