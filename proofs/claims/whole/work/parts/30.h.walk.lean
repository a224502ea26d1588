/-! X4_lost -/
set_option maxHeartbeats 4000000 in
set_option maxRecDepth 100000 in
theorem c_X4_lost (l : Launch) (D : va_G) (cI : ClassId) (a : Nat → Nat) (ss : (Nat → Int32)) (mm : (Nat → Int32)) (im : (Nat → Int32)) (wa : (Nat → Int32)) (hi : Int32) (le : (Nat → Int32)) (ro : (Nat → Int32)) (re : (Nat → Int32)) (lm : Int32) (rm : Int32) (pl : Int32) (nu : (Nat → Int32)) (gi : (Nat → Int32)) (bg : (Nat → Int32)) (bm : Int32) (sd : Int32)  (res : Int32) (h : M_X4_lost ss = some res) : mI l yX4_lost wsX4_lost { frames := 4, cells := 0, slots := 0, locals := 87 } D cI [.ref (a 0)] (cM a cI ss mm im wa hi le ro re lm rm pl nu gi bg bm sd) (cM a cI ss mm im wa hi le ro re lm rm pl nu gi bg bm sd) res := by
  intro sz
  refine mStart (cc := cX4_lost) (maxL := 5) (ret := (some .int)) (own := RX4) (by decide) rfl rfl (Nat.le_of_ble_eq_true rfl) (lv := [(0, .ref (a 0))]) rfl ?_
  intro p e s m args below meth c A ls Q H locs CF hr hlocks hK hP hD hS hA hAe hl hQ
  obtain ⟨hx, hb, hml, hown, hts⟩ := id CF
  have f9 := hts (.fieldLink RX4 9 "MendAnothersBreakingModel" "s" "[I") (List.mem_of_getElem? (i := 1) rfl)
  have i4 : ∀ w ∈ wsX40, w ∈ wsX4_lost := fun w h => List.mem_cons_of_mem _ (List.mem_append_right _ h)
  have L34 : ∀ (n : Nat) (x1 : Int32) (x2 : Int32) (k72 : Int32 → Option (Int32)) (x3 : Int32) (x4 : Int32), fuel (fun _ _ => none) (B_X4_lost_34 x1 x2 ss k72) n x3 x4 = some res → 
      (∀ (x3 : Int32), k72 x3 = some res → ∀ (H : Heap) (locs : List Loc) (ls : Array Slot), va_P D vwCl (cM a cI ss mm im wa hi le ro re lm rm pl nu gi bg bm sd) H → va_D A (cM a cI ss mm im wa hi le ro re lm rm pl nu gi bg bm sd) → va_S A s.heap H locs → lv_has ls 5 [(0, .ref (a 0)), (1, .int x1), (2, .int x2), (3, .int x3)] → W p l e { frames := 4, cells := 0, slots := 0, locals := 87 } s m args below meth c H locs 0 0 Q (F0 m 72 ls [])) → 
      ∀ (H : Heap) (locs : List Loc) (ls : Array Slot), va_P D vwCl (cM a cI ss mm im wa hi le ro re lm rm pl nu gi bg bm sd) H → va_D A (cM a cI ss mm im wa hi le ro re lm rm pl nu gi bg bm sd) → va_S A s.heap H locs → lv_has ls 5 [(0, .ref (a 0)), (1, .int x1), (2, .int x2), (3, .int x3), (4, .int x4)] → W p l e { frames := 4, cells := 0, slots := 0, locals := 87 } s m args below meth c H locs 0 0 Q (F0 m 34 ls []) := by
    intro n
    induction n with
    | zero =>
      intro x1 x2 k72 x3 x4 h
      exact nomatch (show (none : Option (Int32)) = some res from h)
    | succ n ih =>
      intro x1 x2 k72 x3 x4 h hk72 H locs ls hP hD hS hl
      replace h : B_X4_lost_34 x1 x2 ss k72 (fuel (fun _ _ => none) (B_X4_lost_34 x1 x2 ss k72) n) x3 x4 = some res := h
      unfold B_X4_lost_34 at h
      refine lv_iload hx hb dX4_lost_34 (lv_at hl 4 rfl) ?_
      refine lv_aload_n hx hb dX4_lost_36 rfl (lv_at hl 0 rfl) ?_
      refine va_get (D := D) (ci := 4) (v := .ref (a 1)) (C := RX4) (T := TX4) (N := 16) hx hb hts i4 hown hK hP 0 rfl rfl 0 (by decide) f9 (fun _ h9 => h9) rfl dX4_lost_37 ?_
      refine lv_iconst (v := 0) hx hb dX4_lost_40 (by decide) ?_
      refine ald (n := 61) (f := ss) (k := 0) hx hb hK hP 1 0 rfl rfl (fx_lit rfl) rfl dX4_lost_41 ?_
      refine lv_icmp_ge (tgt := 72) hx hb dX4_lost_42 (by decide) (fun c42 => ?_) (fun c42 => ?_)
      · replace h := fx_ite_t c42 h
        exact hk72 _ h _ _ _ hP hD hS (lv_sub hl [0, 1, 2, 3] rfl)
      · replace h := fx_ite_f c42 h
        refine lv_iload_n hx hb dX4_lost_45 rfl (lv_at hl 3 rfl) ?_
        refine lv_aload_n hx hb dX4_lost_46 rfl (lv_at hl 0 rfl) ?_
        refine va_get (D := D) (ci := 4) (v := .ref (a 1)) (C := RX4) (T := TX4) (N := 16) hx hb hts i4 hown hK hP 0 rfl rfl 0 (by decide) f9 (fun _ h9 => h9) rfl dX4_lost_47 ?_
        refine lv_iload hx hb dX4_lost_50 (lv_at hl 4 rfl) ?_
        refine lv_iload_n hx hb dX4_lost_52 rfl (lv_at hl 2 rfl) ?_
        obtain ⟨r53, q53, h⟩ := bnd1_inv h
        refine kSI (n := 3) (As := [.ref (a 1), .int x4, .int x2]) (rest := [.int x3]) CF hl hK hP hD hS hA (c_X4_mayMend l D cI (a 1) ss x4 x2 r53 q53) gX4_lost_X4_mayMend rfl dX4_lost_53 (by decide +kernel) ⟨⟨rfl, rfl⟩, ⟨Nat.le_of_ble_eq_true rfl, Nat.le_of_ble_eq_true rfl⟩, Nat.zero_le _, Nat.zero_le _⟩ (JN.ro [1] rfl rfl) rfl rfl (Nat.le_of_ble_eq_true rfl) (fun H locs hP hD hS => ?_)
        refine lv_if_ne (tgt := 63) hx hb dX4_lost_56 (by decide) (fun c56 => ?_) (fun c56 => ?_)
        · replace h := fx_ite_f c56 h
          refine lv_iconst (v := 0) hx hb dX4_lost_63 (by decide) ?_
          refine lv_iand hx hb dX4_lost_64 ?_
          refine lv_istore_n (lv' := [(3, .int (x3 &&& (0 : Int32))), (0, .ref (a 0)), (1, .int x1), (2, .int x2), (4, .int x4)]) hx hb dX4_lost_65 rfl hl (by decide) rfl (fun ls hl => ?_)
          refine lv_iinc (v := (x4 + 1)) (lv' := [(4, .int (x4 + 1)), (3, .int (x3 &&& (0 : Int32))), (0, .ref (a 0)), (1, .int x1), (2, .int x2)]) hx hb dX4_lost_66 hl (k := 4) rfl (by first | rfl | decide) (by decide) rfl (fun ls hl => ?_)
          refine lv_goto (tgt := 34) hx hb dX4_lost_69 (by decide) ?_
          exact ih _ _ _ _ _ h hk72 _ _ _ hP hD hS (lv_sub hl [2, 3, 4, 1, 0] rfl)
        · replace h := fx_ite_t c56 h
          refine lv_iconst (v := 1) hx hb dX4_lost_59 (by decide) ?_
          refine lv_goto (tgt := 64) hx hb dX4_lost_60 (by decide) ?_
          refine lv_iand hx hb dX4_lost_64 ?_
          refine lv_istore_n (lv' := [(3, .int (x3 &&& (1 : Int32))), (0, .ref (a 0)), (1, .int x1), (2, .int x2), (4, .int x4)]) hx hb dX4_lost_65 rfl hl (by decide) rfl (fun ls hl => ?_)
          refine lv_iinc (v := (x4 + 1)) (lv' := [(4, .int (x4 + 1)), (3, .int (x3 &&& (1 : Int32))), (0, .ref (a 0)), (1, .int x1), (2, .int x2)]) hx hb dX4_lost_66 hl (k := 4) rfl (by first | rfl | decide) (by decide) rfl (fun ls hl => ?_)
          refine lv_goto (tgt := 34) hx hb dX4_lost_69 (by decide) ?_
          exact ih _ _ _ _ _ h hk72 _ _ _ hP hD hS (lv_sub hl [2, 3, 4, 1, 0] rfl)
  have L4 : ∀ (n : Nat)  (x1 : Int32) (x2 : Int32), fuel (fun _ _ => none) (B_X4_lost_4 ss) n x1 x2 = some res → 
      ∀ (H : Heap) (locs : List Loc) (ls : Array Slot), va_P D vwCl (cM a cI ss mm im wa hi le ro re lm rm pl nu gi bg bm sd) H → va_D A (cM a cI ss mm im wa hi le ro re lm rm pl nu gi bg bm sd) → va_S A s.heap H locs → lv_has ls 5 [(0, .ref (a 0)), (1, .int x1), (2, .int x2)] → W p l e { frames := 4, cells := 0, slots := 0, locals := 87 } s m args below meth c H locs 0 0 Q (F0 m 4 ls []) := by
    intro n
    induction n with
    | zero =>
      intro x1 x2 h
      exact nomatch (show (none : Option (Int32)) = some res from h)
    | succ n ih =>
      intro x1 x2 h  H locs ls hP hD hS hl
      replace h : B_X4_lost_4 ss (fuel (fun _ _ => none) (B_X4_lost_4 ss) n) x1 x2 = some res := h
      unfold B_X4_lost_4 at h
      refine lv_iload_n hx hb dX4_lost_4 rfl (lv_at hl 2 rfl) ?_
      refine lv_aload_n hx hb dX4_lost_5 rfl (lv_at hl 0 rfl) ?_
      refine va_get (D := D) (ci := 4) (v := .ref (a 1)) (C := RX4) (T := TX4) (N := 16) hx hb hts i4 hown hK hP 0 rfl rfl 0 (by decide) f9 (fun _ h9 => h9) rfl dX4_lost_6 ?_
      refine lv_iconst (v := 1) hx hb dX4_lost_9 (by decide) ?_
      refine ald (n := 61) (f := ss) (k := 1) hx hb hK hP 1 0 rfl rfl (fx_lit rfl) rfl dX4_lost_10 ?_
      refine lv_icmp_ge (tgt := 92) hx hb dX4_lost_11 (by decide) (fun c11 => ?_) (fun c11 => ?_)
      · replace h := fx_ite_t c11 h
        refine lv_iload_n hx hb dX4_lost_92 rfl (lv_at hl 1 rfl) ?_
        obtain rfl := rtv1 h
        exact rI hQ hx hb hr hlocks hAe hP hS rfl rfl dX4_lost_93
      · replace h := fx_ite_f c11 h
        refine lv_aload_n hx hb dX4_lost_14 rfl (lv_at hl 0 rfl) ?_
        refine va_get (D := D) (ci := 4) (v := .ref (a 1)) (C := RX4) (T := TX4) (N := 16) hx hb hts i4 hown hK hP 0 rfl rfl 0 (by decide) f9 (fun _ h9 => h9) rfl dX4_lost_15 ?_
        refine lv_iload_n hx hb dX4_lost_18 rfl (lv_at hl 2 rfl) ?_
        obtain ⟨r19, q19, h⟩ := bnd1_inv h
        refine kSI (n := 2) (As := [.ref (a 1), .int x2]) (rest := []) CF hl hK hP hD hS hA (c_X4_isWhole l D cI (a 1) ss x2 r19 q19) gX4_lost_X4_isWhole rfl dX4_lost_19 (by decide +kernel) ⟨⟨rfl, rfl⟩, ⟨Nat.le_of_ble_eq_true rfl, Nat.le_of_ble_eq_true rfl⟩, Nat.zero_le _, Nat.zero_le _⟩ (JN.ro [1] rfl rfl) rfl rfl (Nat.le_of_ble_eq_true rfl) (fun H locs hP hD hS => ?_)
        refine lv_if_ne (tgt := 29) hx hb dX4_lost_22 (by decide) (fun c22 => ?_) (fun c22 => ?_)
        · replace h := fx_ite_f c22 h
          refine lv_iconst (v := 0) hx hb dX4_lost_29 (by decide) ?_
          refine lv_istore_n (lv' := [(3, .int (0 : Int32)), (0, .ref (a 0)), (1, .int x1), (2, .int x2)]) hx hb dX4_lost_30 rfl hl (by decide) rfl (fun ls hl => ?_)
          refine lv_iconst (v := 0) hx hb dX4_lost_31 (by decide) ?_
          refine lv_istore (lv' := [(4, .int (0 : Int32)), (3, .int (0 : Int32)), (0, .ref (a 0)), (1, .int x1), (2, .int x2)]) hx hb dX4_lost_32 hl (by decide) rfl (fun ls hl => ?_)
          refine L34 FU _ _ _ _ _ h (fun x3 h H locs ls hP hD hS hl => ?_) _ _ _ hP hD hS (lv_sub hl [2, 3, 4, 1, 0] rfl)
          refine lv_iload_n hx hb dX4_lost_72 rfl (lv_at hl 1 rfl) ?_
          refine lv_iload_n hx hb dX4_lost_73 rfl (lv_at hl 3 rfl) ?_
          refine lv_if_eq (tgt := 83) hx hb dX4_lost_74 (by decide) (fun c74 => ?_) (fun c74 => ?_)
          · replace h := fx_ite_t c74 h
            refine lv_iconst (v := 0) hx hb dX4_lost_83 (by decide) ?_
            refine lv_ior hx hb dX4_lost_84 ?_
            refine lv_istore_n (lv' := [(1, .int (x1 ||| (0 : Int32))), (0, .ref (a 0)), (2, .int x2), (3, .int x3)]) hx hb dX4_lost_85 rfl hl (by decide) rfl (fun ls hl => ?_)
            refine lv_iinc (v := (x2 + 1)) (lv' := [(2, .int (x2 + 1)), (1, .int (x1 ||| (0 : Int32))), (0, .ref (a 0)), (3, .int x3)]) hx hb dX4_lost_86 hl (k := 2) rfl (by first | rfl | decide) (by decide) rfl (fun ls hl => ?_)
            refine lv_goto (tgt := 4) hx hb dX4_lost_89 (by decide) ?_
            exact ih _ _ h  _ _ _ hP hD hS (lv_sub hl [2, 1, 0] rfl)
          · replace h := fx_ite_f c74 h
            refine lv_iconst (v := 1) hx hb dX4_lost_77 (by decide) ?_
            refine lv_iload_n hx hb dX4_lost_78 rfl (lv_at hl 2 rfl) ?_
            refine lv_ishl hx hb dX4_lost_79 ?_
            refine lv_goto (tgt := 84) hx hb dX4_lost_80 (by decide) ?_
            refine lv_ior hx hb dX4_lost_84 ?_
            refine lv_istore_n (lv' := [(1, .int (x1 ||| ((1 : Int32) <<< (x2 &&& 31)))), (0, .ref (a 0)), (2, .int x2), (3, .int x3)]) hx hb dX4_lost_85 rfl hl (by decide) rfl (fun ls hl => ?_)
            refine lv_iinc (v := (x2 + 1)) (lv' := [(2, .int (x2 + 1)), (1, .int (x1 ||| ((1 : Int32) <<< (x2 &&& 31)))), (0, .ref (a 0)), (3, .int x3)]) hx hb dX4_lost_86 hl (k := 2) rfl (by first | rfl | decide) (by decide) rfl (fun ls hl => ?_)
            refine lv_goto (tgt := 4) hx hb dX4_lost_89 (by decide) ?_
            exact ih _ _ h  _ _ _ hP hD hS (lv_sub hl [2, 1, 0] rfl)
        · replace h := fx_ite_t c22 h
          refine lv_iconst (v := 1) hx hb dX4_lost_25 (by decide) ?_
          refine lv_goto (tgt := 30) hx hb dX4_lost_26 (by decide) ?_
          refine lv_istore_n (lv' := [(3, .int (1 : Int32)), (0, .ref (a 0)), (1, .int x1), (2, .int x2)]) hx hb dX4_lost_30 rfl hl (by decide) rfl (fun ls hl => ?_)
          refine lv_iconst (v := 0) hx hb dX4_lost_31 (by decide) ?_
          refine lv_istore (lv' := [(4, .int (0 : Int32)), (3, .int (1 : Int32)), (0, .ref (a 0)), (1, .int x1), (2, .int x2)]) hx hb dX4_lost_32 hl (by decide) rfl (fun ls hl => ?_)
          refine L34 FU _ _ _ _ _ h (fun x3 h H locs ls hP hD hS hl => ?_) _ _ _ hP hD hS (lv_sub hl [2, 3, 4, 1, 0] rfl)
          refine lv_iload_n hx hb dX4_lost_72 rfl (lv_at hl 1 rfl) ?_
          refine lv_iload_n hx hb dX4_lost_73 rfl (lv_at hl 3 rfl) ?_
          refine lv_if_eq (tgt := 83) hx hb dX4_lost_74 (by decide) (fun c74 => ?_) (fun c74 => ?_)
          · replace h := fx_ite_t c74 h
            refine lv_iconst (v := 0) hx hb dX4_lost_83 (by decide) ?_
            refine lv_ior hx hb dX4_lost_84 ?_
            refine lv_istore_n (lv' := [(1, .int (x1 ||| (0 : Int32))), (0, .ref (a 0)), (2, .int x2), (3, .int x3)]) hx hb dX4_lost_85 rfl hl (by decide) rfl (fun ls hl => ?_)
            refine lv_iinc (v := (x2 + 1)) (lv' := [(2, .int (x2 + 1)), (1, .int (x1 ||| (0 : Int32))), (0, .ref (a 0)), (3, .int x3)]) hx hb dX4_lost_86 hl (k := 2) rfl (by first | rfl | decide) (by decide) rfl (fun ls hl => ?_)
            refine lv_goto (tgt := 4) hx hb dX4_lost_89 (by decide) ?_
            exact ih _ _ h  _ _ _ hP hD hS (lv_sub hl [2, 1, 0] rfl)
          · replace h := fx_ite_f c74 h
            refine lv_iconst (v := 1) hx hb dX4_lost_77 (by decide) ?_
            refine lv_iload_n hx hb dX4_lost_78 rfl (lv_at hl 2 rfl) ?_
            refine lv_ishl hx hb dX4_lost_79 ?_
            refine lv_goto (tgt := 84) hx hb dX4_lost_80 (by decide) ?_
            refine lv_ior hx hb dX4_lost_84 ?_
            refine lv_istore_n (lv' := [(1, .int (x1 ||| ((1 : Int32) <<< (x2 &&& 31)))), (0, .ref (a 0)), (2, .int x2), (3, .int x3)]) hx hb dX4_lost_85 rfl hl (by decide) rfl (fun ls hl => ?_)
            refine lv_iinc (v := (x2 + 1)) (lv' := [(2, .int (x2 + 1)), (1, .int (x1 ||| ((1 : Int32) <<< (x2 &&& 31)))), (0, .ref (a 0)), (3, .int x3)]) hx hb dX4_lost_86 hl (k := 2) rfl (by first | rfl | decide) (by decide) rfl (fun ls hl => ?_)
            refine lv_goto (tgt := 4) hx hb dX4_lost_89 (by decide) ?_
            exact ih _ _ h  _ _ _ hP hD hS (lv_sub hl [2, 1, 0] rfl)
  unfold M_X4_lost at h
  refine lv_iconst (v := 0) hx hb dX4_lost_0 (by decide) ?_
  refine lv_istore_n (lv' := [(1, .int (0 : Int32)), (0, .ref (a 0))]) hx hb dX4_lost_1 rfl hl (by decide) rfl (fun ls hl => ?_)
  refine lv_iconst (v := 0) hx hb dX4_lost_2 (by decide) ?_
  refine lv_istore_n (lv' := [(2, .int (0 : Int32)), (1, .int (0 : Int32)), (0, .ref (a 0))]) hx hb dX4_lost_3 rfl hl (by decide) rfl (fun ls hl => ?_)
  exact L4 FU _ _ h  _ _ _ hP hD hS (lv_sub hl [2, 1, 0] rfl)
/-! X4_breaker -/
set_option maxHeartbeats 4000000 in
set_option maxRecDepth 100000 in
theorem c_X4_breaker (l : Launch) (D : va_G) (cI : ClassId) (a : Nat → Nat) (ss : (Nat → Int32)) (mm : (Nat → Int32)) (im : (Nat → Int32)) (wa : (Nat → Int32)) (hi : Int32) (le : (Nat → Int32)) (ro : (Nat → Int32)) (re : (Nat → Int32)) (lm : Int32) (rm : Int32) (pl : Int32) (nu : (Nat → Int32)) (gi : (Nat → Int32)) (bg : (Nat → Int32)) (bm : Int32) (sd : Int32) (p1 : Int32) (res : Int32) (u_mm : (Nat → Int32)) (u_re : (Nat → Int32)) (h : M_X4_breaker ss mm re p1 = some (res, u_mm, u_re)) : mI l yX4_breaker wsX4_breaker { frames := 7, cells := 0, slots := 0, locals := 157 } D cI [.ref (a 0), .int p1] (cM a cI ss mm im wa hi le ro re lm rm pl nu gi bg bm sd) (cM a cI ss u_mm im wa hi le ro u_re lm rm pl nu gi bg bm sd) res := by
  intro sz
  refine mStart (cc := cX4_breaker) (maxL := 7) (ret := (some .int)) (own := RX4) (by decide) rfl rfl (Nat.le_of_ble_eq_true rfl) (lv := [(0, .ref (a 0)), (1, .int p1)]) rfl ?_
  intro p e s m args below meth c A ls Q H locs CF hr hlocks hK hP hD hS hA hAe hl hQ
  obtain ⟨hx, hb, hml, hown, hts⟩ := id CF
  have f9 := hts (.fieldLink RX4 9 "MendAnothersBreakingModel" "s" "[I") (List.mem_of_getElem? (i := 2) rfl)
  have f13 := hts (.fieldLink RX4 13 "MendAnothersBreakingModel" "m" "[I") (List.mem_of_getElem? (i := 3) rfl)
  have k40 := hts (.constant RX4 40 (1000000000)) (List.mem_of_getElem? (i := 1) rfl)
  have i4 : ∀ w ∈ wsX40, w ∈ wsX4_breaker := fun w h => List.mem_cons_of_mem _ (List.mem_append_right _ h)
  have L27 : ∀ (n : Nat) (x1 : Int32) (re : (Nat → Int32)) (x3 : Int32) (x4 : Int32) (x5 : Int32) (mm : (Nat → Int32)), fuel (fun _ _ _ _ => none) (B_X4_breaker_27 x1 ss re) n x3 x4 x5 mm = some (res, u_mm, u_re) → 
      ∀ (H : Heap) (locs : List Loc) (ls : Array Slot), va_P D vwCl (cM a cI ss mm im wa hi le ro re lm rm pl nu gi bg bm sd) H → va_D A (cM a cI ss mm im wa hi le ro re lm rm pl nu gi bg bm sd) → va_S A s.heap H locs → lv_has ls 7 [(0, .ref (a 0)), (1, .int x1), (3, .int x3), (4, .int x4), (5, .int x5)] → W p l e { frames := 7, cells := 0, slots := 0, locals := 157 } s m args below meth c H locs 0 0 Q (F0 m 27 ls []) := by
    intro n
    induction n with
    | zero =>
      intro x1 re x3 x4 x5 mm h
      exact nomatch (show (none : Option (Int32 × (Nat → Int32) × (Nat → Int32))) = some (res, u_mm, u_re) from h)
    | succ n ih =>
      intro x1 re x3 x4 x5 mm h  H locs ls hP hD hS hl
      replace h : B_X4_breaker_27 x1 ss re (fuel (fun _ _ _ _ => none) (B_X4_breaker_27 x1 ss re) n) x3 x4 x5 mm = some (res, u_mm, u_re) := h
      unfold B_X4_breaker_27 at h
      refine lv_iload hx hb dX4_breaker_27 (lv_at hl 4 rfl) ?_
      refine lv_aload_n hx hb dX4_breaker_29 rfl (lv_at hl 0 rfl) ?_
      refine va_get (D := D) (ci := 4) (v := .ref (a 1)) (C := RX4) (T := TX4) (N := 16) hx hb hts i4 hown hK hP 0 rfl rfl 0 (by decide) f9 (fun _ h9 => h9) rfl dX4_breaker_30 ?_
      refine lv_iconst (v := 0) hx hb dX4_breaker_33 (by decide) ?_
      refine ald (n := 61) (f := ss) (k := 0) hx hb hK hP 1 0 rfl rfl (fx_lit rfl) rfl dX4_breaker_34 ?_
      refine lv_icmp_ge (tgt := 101) hx hb dX4_breaker_35 (by decide) (fun c35 => ?_) (fun c35 => ?_)
      · replace h := fx_ite_t c35 h
        refine lv_iload_n hx hb dX4_breaker_101 rfl (lv_at hl 2 rfl) ?_
        obtain ⟨rfl, rfl, rfl⟩ := rtv3 h
        exact rI hQ hx hb hr hlocks hAe hP hS rfl rfl dX4_breaker_102
      · replace h := fx_ite_f c35 h
        refine lv_aload_n hx hb dX4_breaker_38 rfl (lv_at hl 0 rfl) ?_
        refine va_get (D := D) (ci := 4) (v := .ref (a 1)) (C := RX4) (T := TX4) (N := 16) hx hb hts i4 hown hK hP 0 rfl rfl 0 (by decide) f9 (fun _ h9 => h9) rfl dX4_breaker_39 ?_
        refine lv_aload_n hx hb dX4_breaker_42 rfl (lv_at hl 0 rfl) ?_
        refine va_get (D := D) (ci := 4) (v := .ref (a 2)) (C := RX4) (T := TX4) (N := 16) hx hb hts i4 hown hK hP 0 rfl rfl 1 (by decide) f13 (fun _ h9 => h9) rfl dX4_breaker_43 ?_
        obtain ⟨u46_mm, q46, h⟩ := bnd1_inv h
        refine kSV (n := 2) (As := [.ref (a 1), .ref (a 2)]) (rest := []) CF hl hK hP hD hS hA (c_X4_copies l D cI (a 1) (a 2) ss mm  u46_mm q46) gX4_breaker_X4_copies rfl dX4_breaker_46 (by decide +kernel) ⟨⟨rfl, rfl⟩, ⟨Nat.le_of_ble_eq_true rfl, Nat.le_of_ble_eq_true rfl⟩, Nat.zero_le _, Nat.zero_le _⟩ (JN.sub (wst' := (cM a cI ss u46_mm im wa hi le ro re lm rm pl nu gi bg bm sd)) [1, 2] rfl rfl rfl rfl) rfl rfl (Nat.le_of_ble_eq_true rfl) (fun H locs hP hD hS => ?_)
        replace hP : va_P D vwCl (cM a cI ss u46_mm im wa hi le ro re lm rm pl nu gi bg bm sd) H := hP
        replace hD : va_D A (cM a cI ss u46_mm im wa hi le ro re lm rm pl nu gi bg bm sd) := hD
        refine lv_aload_n hx hb dX4_breaker_49 rfl (lv_at hl 0 rfl) ?_
        refine va_get (D := D) (ci := 4) (v := .ref (a 2)) (C := RX4) (T := TX4) (N := 16) hx hb hts i4 hown hK hP 0 rfl rfl 1 (by decide) f13 (fun _ h9 => h9) rfl dX4_breaker_50 ?_
        refine lv_iload_n hx hb dX4_breaker_53 rfl (lv_at hl 1 rfl) ?_
        obtain ⟨r54, q54, h⟩ := bnd1_inv h
        refine kSI (n := 1) (As := [.int x1]) (rest := [.ref (a 2)]) CF hl hK hP hD hS hA (c_X4_ofT l D cI   x1 r54 q54) gX4_breaker_X4_ofT rfl dX4_breaker_54 (by decide +kernel) ⟨⟨rfl, rfl⟩, ⟨Nat.le_of_ble_eq_true rfl, Nat.le_of_ble_eq_true rfl⟩, Nat.zero_le _, Nat.zero_le _⟩ (JN.ro [] rfl rfl) rfl rfl (Nat.le_of_ble_eq_true rfl) (fun H locs hP hD hS => ?_)
        refine lv_iconst (v := 4) hx hb dX4_breaker_57 (by decide) ?_
        refine lv_iadd hx hb dX4_breaker_58 ?_
        refine lv_iload hx hb dX4_breaker_59 (lv_at hl 4 rfl) ?_
        obtain ⟨g61, h⟩ := chk_inv h
        refine va_iast (n := 61) (f := u46_mm) hx hb hK hP hD hS 2 0 rfl rfl g61 dX4_breaker_61 (fun H locs hP hD hS => ?_)
        replace hP : va_P D vwCl (cM a cI ss (upd u46_mm (Int32.toNatClampNeg (r54 + (4 : Int32))) x5) im wa hi le ro re lm rm pl nu gi bg bm sd) H := hP
        replace hD : va_D A (cM a cI ss (upd u46_mm (Int32.toNatClampNeg (r54 + (4 : Int32))) x5) im wa hi le ro re lm rm pl nu gi bg bm sd) := hD
        refine lv_aload_n hx hb dX4_breaker_62 rfl (lv_at hl 0 rfl) ?_
        refine lv_iconst (v := 1) hx hb dX4_breaker_63 (by decide) ?_
        refine lv_iload_n hx hb dX4_breaker_64 rfl (lv_at hl 1 rfl) ?_
        refine lv_ishl hx hb dX4_breaker_65 ?_
        refine lv_iconst (v := 1) hx hb dX4_breaker_66 (by decide) ?_
        refine lv_iconst (v := 1) hx hb dX4_breaker_67 (by decide) ?_
        obtain ⟨r68, u68_mm, q68, h⟩ := bnd2_inv h
        refine kVI (n := 3) (As := [.int ((1 : Int32) <<< (x1 &&& 31)), .int (1 : Int32), .int (1 : Int32)]) (rest := []) CF hl hK hP hD hS hA (c_X4_whenIn l D cI a ss (upd u46_mm (Int32.toNatClampNeg (r54 + (4 : Int32))) x5) im wa hi le ro re lm rm pl nu gi bg bm sd ((1 : Int32) <<< (x1 &&& 31)) (1 : Int32) (1 : Int32) r68 u68_mm q68) gX4_breaker_X4_whenIn rfl dX4_breaker_68 (by decide +kernel) ⟨⟨rfl, rfl⟩, ⟨Nat.le_of_ble_eq_true rfl, Nat.le_of_ble_eq_true rfl⟩, Nat.zero_le _, Nat.zero_le _⟩ (JN.whole (w1 := (cM a cI ss u68_mm im wa hi le ro re lm rm pl nu gi bg bm sd)) rfl) 0 rfl ⟨rfl, rfl⟩ rfl rfl (Nat.le_of_ble_eq_true rfl) (fun H locs hP hD hS => ?_)
        replace hP : va_P D vwCl (cM a cI ss u68_mm im wa hi le ro re lm rm pl nu gi bg bm sd) H := hP
        replace hD : va_D A (cM a cI ss u68_mm im wa hi le ro re lm rm pl nu gi bg bm sd) := hD
        refine lv_istore (lv' := [(6, .int r68), (0, .ref (a 0)), (1, .int x1), (3, .int x3), (4, .int x4), (5, .int x5)]) hx hb dX4_breaker_71 hl (by decide) rfl (fun ls hl => ?_)
        refine lv_iload hx hb dX4_breaker_73 (lv_at hl 0 rfl) ?_
        refine lv_if_lt (tgt := 95) hx hb dX4_breaker_75 (by decide) (fun c75 => ?_) (fun c75 => ?_)
        · replace h := fx_ite_t c75 h
          refine lv_iinc (v := (x5 + 1)) (lv' := [(5, .int (x5 + 1)), (6, .int r68), (0, .ref (a 0)), (1, .int x1), (3, .int x3), (4, .int x4)]) hx hb dX4_breaker_95 hl (k := 5) rfl (by first | rfl | decide) (by decide) rfl (fun ls hl => ?_)
          refine lv_goto (tgt := 27) hx hb dX4_breaker_98 (by decide) ?_
          exact ih _ _ _ _ _ _ h  _ _ _ hP hD hS (lv_sub hl [2, 3, 4, 5, 0] rfl)
        · replace h := fx_ite_f c75 h
          refine lv_iload hx hb dX4_breaker_78 (lv_at hl 0 rfl) ?_
          refine lv_iload hx hb dX4_breaker_80 (lv_at hl 4 rfl) ?_
          refine lv_icmp_lt (tgt := 88) hx hb dX4_breaker_82 (by decide) (fun c82 => ?_) (fun c82 => ?_)
          · replace h := fx_ite_t c82 h
            refine lv_iload hx hb dX4_breaker_88 (lv_at hl 5 rfl) ?_
            refine lv_istore_n (lv' := [(3, .int x5), (6, .int r68), (0, .ref (a 0)), (1, .int x1), (4, .int x4), (5, .int x5)]) hx hb dX4_breaker_90 rfl hl (by decide) rfl (fun ls hl => ?_)
            refine lv_iload hx hb dX4_breaker_91 (lv_at hl 1 rfl) ?_
            refine lv_istore (lv' := [(4, .int r68), (3, .int x5), (6, .int r68), (0, .ref (a 0)), (1, .int x1), (5, .int x5)]) hx hb dX4_breaker_93 hl (by decide) rfl (fun ls hl => ?_)
            refine lv_iinc (v := (x5 + 1)) (lv' := [(5, .int (x5 + 1)), (4, .int r68), (3, .int x5), (6, .int r68), (0, .ref (a 0)), (1, .int x1)]) hx hb dX4_breaker_95 hl (k := 5) rfl (by first | rfl | decide) (by decide) rfl (fun ls hl => ?_)
            refine lv_goto (tgt := 27) hx hb dX4_breaker_98 (by decide) ?_
            exact ih _ _ _ _ _ _ h  _ _ _ hP hD hS (lv_sub hl [4, 5, 2, 1, 0] rfl)
          · replace h := fx_ite_f c82 h
            refine lv_goto (tgt := 95) hx hb dX4_breaker_85 (by decide) ?_
            refine lv_iinc (v := (x5 + 1)) (lv' := [(5, .int (x5 + 1)), (6, .int r68), (0, .ref (a 0)), (1, .int x1), (3, .int x3), (4, .int x4)]) hx hb dX4_breaker_95 hl (k := 5) rfl (by first | rfl | decide) (by decide) rfl (fun ls hl => ?_)
            refine lv_goto (tgt := 27) hx hb dX4_breaker_98 (by decide) ?_
            exact ih _ _ _ _ _ _ h  _ _ _ hP hD hS (lv_sub hl [2, 3, 4, 5, 0] rfl)
  unfold M_X4_breaker at h
  refine lv_aload_n hx hb dX4_breaker_0 rfl (lv_at hl 0 rfl) ?_
  refine lv_iload_n hx hb dX4_breaker_1 rfl (lv_at hl 1 rfl) ?_
  refine lv_iconst (v := 1) hx hb dX4_breaker_2 (by decide) ?_
  obtain ⟨r3, q3, h⟩ := bnd1_inv h
  refine kVI (n := 2) (As := [.int p1, .int (1 : Int32)]) (rest := []) CF hl hK hP hD hS hA (c_X4_wrongBreak l D cI a ss mm im wa hi le ro re lm rm pl nu gi bg bm sd p1 (1 : Int32) r3 q3) gX4_breaker_X4_wrongBreak rfl dX4_breaker_3 (by decide +kernel) ⟨⟨rfl, rfl⟩, ⟨Nat.le_of_ble_eq_true rfl, Nat.le_of_ble_eq_true rfl⟩, Nat.zero_le _, Nat.zero_le _⟩ (JN.whole rfl) 0 rfl ⟨rfl, rfl⟩ rfl rfl (Nat.le_of_ble_eq_true rfl) (fun H locs hP hD hS => ?_)
  replace hP : va_P D vwCl (cM a cI ss mm im wa hi le ro re lm rm pl nu gi bg bm sd) H := hP
  replace hD : va_D A (cM a cI ss mm im wa hi le ro re lm rm pl nu gi bg bm sd) := hD
  refine lv_istore_n (lv' := [(2, .int r3), (0, .ref (a 0)), (1, .int p1)]) hx hb dX4_breaker_6 rfl hl (by decide) rfl (fun ls hl => ?_)
  refine lv_iload_n hx hb dX4_breaker_7 rfl (lv_at hl 0 rfl) ?_
  refine lv_if_eq (tgt := 17) hx hb dX4_breaker_8 (by decide) (fun c8 => ?_) (fun c8 => ?_)
  · replace h := fx_ite_t c8 h
    refine lv_bipush (v := (-9)) hx hb dX4_breaker_17 (by decide) ?_
    refine lv_istore_n (lv' := [(3, .int (-9 : Int32)), (2, .int r3), (0, .ref (a 0)), (1, .int p1)]) hx hb dX4_breaker_19 rfl hl (by decide) rfl (fun ls hl => ?_)
    refine lv_ldc (v := 1000000000) hx hb hown k40 dX4_breaker_20 ?_
    refine lv_istore (lv' := [(4, .int (1000000000 : Int32)), (3, .int (-9 : Int32)), (2, .int r3), (0, .ref (a 0)), (1, .int p1)]) hx hb dX4_breaker_22 hl (by decide) rfl (fun ls hl => ?_)
    refine lv_iconst (v := 0) hx hb dX4_breaker_24 (by decide) ?_
    refine lv_istore (lv' := [(5, .int (0 : Int32)), (4, .int (1000000000 : Int32)), (3, .int (-9 : Int32)), (2, .int r3), (0, .ref (a 0)), (1, .int p1)]) hx hb dX4_breaker_25 hl (by decide) rfl (fun ls hl => ?_)
    exact L27 FU _ _ _ _ _ _ h  _ _ _ hP hD hS (lv_sub hl [4, 5, 2, 1, 0] rfl)
  · replace h := fx_ite_f c8 h
    refine lv_aload_n hx hb dX4_breaker_11 rfl (lv_at hl 1 rfl) ?_
    refine lv_iload_n hx hb dX4_breaker_12 rfl (lv_at hl 0 rfl) ?_
    obtain ⟨r13, u13_re, q13, h⟩ := bnd2_inv h
    refine kVI (n := 1) (As := [.int r3]) (rest := []) CF hl hK hP hD hS hA (c_X4_no l D cI a ss mm im wa hi le ro re lm rm pl nu gi bg bm sd r3 r13 u13_re q13) gX4_breaker_X4_no rfl dX4_breaker_13 (by decide +kernel) ⟨⟨rfl, rfl⟩, ⟨Nat.le_of_ble_eq_true rfl, Nat.le_of_ble_eq_true rfl⟩, Nat.zero_le _, Nat.zero_le _⟩ (JN.whole (w1 := (cM a cI ss mm im wa hi le ro u13_re lm rm pl nu gi bg bm sd)) rfl) 0 rfl ⟨rfl, rfl⟩ rfl rfl (Nat.le_of_ble_eq_true rfl) (fun H locs hP hD hS => ?_)
    replace hP : va_P D vwCl (cM a cI ss mm im wa hi le ro u13_re lm rm pl nu gi bg bm sd) H := hP
    replace hD : va_D A (cM a cI ss mm im wa hi le ro u13_re lm rm pl nu gi bg bm sd) := hD
    obtain ⟨rfl, rfl, rfl⟩ := rtv3 h
    exact rI hQ hx hb hr hlocks hAe hP hS rfl rfl dX4_breaker_16
/-! X4_bestSays -/
set_option maxHeartbeats 4000000 in
set_option maxRecDepth 100000 in
theorem c_X4_bestSays (l : Launch) (D : va_G) (cI : ClassId) (a : Nat → Nat) (ss : (Nat → Int32)) (mm : (Nat → Int32)) (im : (Nat → Int32)) (wa : (Nat → Int32)) (hi : Int32) (le : (Nat → Int32)) (ro : (Nat → Int32)) (re : (Nat → Int32)) (lm : Int32) (rm : Int32) (pl : Int32) (nu : (Nat → Int32)) (gi : (Nat → Int32)) (bg : (Nat → Int32)) (bm : Int32) (sd : Int32) (p1 : Int32) (res : Int32) (u_mm : (Nat → Int32)) (u_re : (Nat → Int32)) (h : M_X4_bestSays ss mm re p1 = some (res, u_mm, u_re)) : mI l yX4_bestSays wsX4_bestSays { frames := 8, cells := 0, slots := 0, locals := 175 } D cI [.ref (a 0), .int p1] (cM a cI ss mm im wa hi le ro re lm rm pl nu gi bg bm sd) (cM a cI ss u_mm im wa hi le ro u_re lm rm pl nu gi bg bm sd) res := by
  intro sz
  refine mStart (cc := cX4_bestSays) (maxL := 8) (ret := (some .int)) (own := RX4) (by decide) rfl rfl (Nat.le_of_ble_eq_true rfl) (lv := [(0, .ref (a 0)), (1, .int p1)]) rfl ?_
  intro p e s m args below meth c A ls Q H locs CF hr hlocks hK hP hD hS hA hAe hl hQ
  obtain ⟨hx, hb, hml, hown, hts⟩ := id CF
  have f9 := hts (.fieldLink RX4 9 "MendAnothersBreakingModel" "s" "[I") (List.mem_of_getElem? (i := 1) rfl)
  have f13 := hts (.fieldLink RX4 13 "MendAnothersBreakingModel" "m" "[I") (List.mem_of_getElem? (i := 2) rfl)
  have i4 : ∀ w ∈ wsX40, w ∈ wsX4_bestSays := fun w h => List.mem_cons_of_mem _ (List.mem_append_right _ h)
  have L55 : ∀ (n : Nat) (x1 : Int32) (x5 : Int32) (re : (Nat → Int32)) (k143 : Int32 → Int32 → (Nat → Int32) → Option (Int32 × (Nat → Int32) × (Nat → Int32))) (x3 : Int32) (x4 : Int32) (x6 : Int32) (mm : (Nat → Int32)), fuel (fun _ _ _ _ => none) (B_X4_bestSays_55 x1 x5 ss re k143) n x3 x4 x6 mm = some (res, u_mm, u_re) → 
      (∀ (x3 : Int32) (x4 : Int32) (mm : (Nat → Int32)), k143 x3 x4 mm = some (res, u_mm, u_re) → ∀ (H : Heap) (locs : List Loc) (ls : Array Slot), va_P D vwCl (cM a cI ss mm im wa hi le ro re lm rm pl nu gi bg bm sd) H → va_D A (cM a cI ss mm im wa hi le ro re lm rm pl nu gi bg bm sd) → va_S A s.heap H locs → lv_has ls 8 [(0, .ref (a 0)), (1, .int x1), (3, .int x3), (4, .int x4), (5, .int x5)] → W p l e { frames := 8, cells := 0, slots := 0, locals := 175 } s m args below meth c H locs 0 0 Q (F0 m 143 ls [])) → 
      ∀ (H : Heap) (locs : List Loc) (ls : Array Slot), va_P D vwCl (cM a cI ss mm im wa hi le ro re lm rm pl nu gi bg bm sd) H → va_D A (cM a cI ss mm im wa hi le ro re lm rm pl nu gi bg bm sd) → va_S A s.heap H locs → lv_has ls 8 [(0, .ref (a 0)), (1, .int x1), (3, .int x3), (4, .int x4), (5, .int x5), (6, .int x6)] → W p l e { frames := 8, cells := 0, slots := 0, locals := 175 } s m args below meth c H locs 0 0 Q (F0 m 55 ls []) := by
    intro n
    induction n with
    | zero =>
      intro x1 x5 re k143 x3 x4 x6 mm h
      exact nomatch (show (none : Option (Int32 × (Nat → Int32) × (Nat → Int32))) = some (res, u_mm, u_re) from h)
    | succ n ih =>
      intro x1 x5 re k143 x3 x4 x6 mm h hk143 H locs ls hP hD hS hl
      replace h : B_X4_bestSays_55 x1 x5 ss re k143 (fuel (fun _ _ _ _ => none) (B_X4_bestSays_55 x1 x5 ss re k143) n) x3 x4 x6 mm = some (res, u_mm, u_re) := h
      unfold B_X4_bestSays_55 at h
      refine lv_iload hx hb dX4_bestSays_55 (lv_at hl 5 rfl) ?_
      refine lv_aload_n hx hb dX4_bestSays_57 rfl (lv_at hl 0 rfl) ?_
      refine va_get (D := D) (ci := 4) (v := .ref (a 1)) (C := RX4) (T := TX4) (N := 16) hx hb hts i4 hown hK hP 0 rfl rfl 0 (by decide) f9 (fun _ h9 => h9) rfl dX4_bestSays_58 ?_
      refine lv_iconst (v := 0) hx hb dX4_bestSays_61 (by decide) ?_
      refine ald (n := 61) (f := ss) (k := 0) hx hb hK hP 1 0 rfl rfl (fx_lit rfl) rfl dX4_bestSays_62 ?_
      refine lv_icmp_ge (tgt := 143) hx hb dX4_bestSays_63 (by decide) (fun c63 => ?_) (fun c63 => ?_)
      · replace h := fx_ite_t c63 h
        exact hk143 _ _ _ h _ _ _ hP hD hS (lv_sub hl [0, 1, 2, 3, 4] rfl)
      · replace h := fx_ite_f c63 h
        refine lv_aload_n hx hb dX4_bestSays_66 rfl (lv_at hl 0 rfl) ?_
        refine va_get (D := D) (ci := 4) (v := .ref (a 1)) (C := RX4) (T := TX4) (N := 16) hx hb hts i4 hown hK hP 0 rfl rfl 0 (by decide) f9 (fun _ h9 => h9) rfl dX4_bestSays_67 ?_
        refine lv_iload hx hb dX4_bestSays_70 (lv_at hl 4 rfl) ?_
        obtain ⟨r72, q72, h⟩ := bnd1_inv h
        refine kSI (n := 1) (As := [.int x5]) (rest := [.ref (a 1)]) CF hl hK hP hD hS hA (c_X4_ofT l D cI   x5 r72 q72) gX4_bestSays_X4_ofT rfl dX4_bestSays_72 (by decide +kernel) ⟨⟨rfl, rfl⟩, ⟨Nat.le_of_ble_eq_true rfl, Nat.le_of_ble_eq_true rfl⟩, Nat.zero_le _, Nat.zero_le _⟩ (JN.ro [] rfl rfl) rfl rfl (Nat.le_of_ble_eq_true rfl) (fun H locs hP hD hS => ?_)
        refine lv_iconst (v := 4) hx hb dX4_bestSays_75 (by decide) ?_
        refine lv_iadd hx hb dX4_bestSays_76 ?_
        obtain ⟨g77, h⟩ := chk_inv h
        refine va_iald (n := 61) (f := ss) hx hb hK hP 1 0 rfl rfl g77 dX4_bestSays_77 ?_
        refine lv_bipush (v := (-8)) hx hb dX4_bestSays_78 (by decide) ?_
        refine lv_icmp_ne (tgt := 143) hx hb dX4_bestSays_80 (by decide) (fun c80 => ?_) (fun c80 => ?_)
        · replace h := fx_ite_f c80 h
          exact hk143 _ _ _ h _ _ _ hP hD hS (lv_sub hl [0, 1, 2, 3, 4] rfl)
        · replace h := fx_ite_t c80 h
          refine lv_aload_n hx hb dX4_bestSays_83 rfl (lv_at hl 0 rfl) ?_
          refine va_get (D := D) (ci := 4) (v := .ref (a 1)) (C := RX4) (T := TX4) (N := 16) hx hb hts i4 hown hK hP 0 rfl rfl 0 (by decide) f9 (fun _ h9 => h9) rfl dX4_bestSays_84 ?_
          refine lv_aload_n hx hb dX4_bestSays_87 rfl (lv_at hl 0 rfl) ?_
          refine va_get (D := D) (ci := 4) (v := .ref (a 2)) (C := RX4) (T := TX4) (N := 16) hx hb hts i4 hown hK hP 0 rfl rfl 1 (by decide) f13 (fun _ h9 => h9) rfl dX4_bestSays_88 ?_
          obtain ⟨u91_mm, q91, h⟩ := bnd1_inv h
          refine kSV (n := 2) (As := [.ref (a 1), .ref (a 2)]) (rest := []) CF hl hK hP hD hS hA (c_X4_copies l D cI (a 1) (a 2) ss mm  u91_mm q91) gX4_bestSays_X4_copies rfl dX4_bestSays_91 (by decide +kernel) ⟨⟨rfl, rfl⟩, ⟨Nat.le_of_ble_eq_true rfl, Nat.le_of_ble_eq_true rfl⟩, Nat.zero_le _, Nat.zero_le _⟩ (JN.sub (wst' := (cM a cI ss u91_mm im wa hi le ro re lm rm pl nu gi bg bm sd)) [1, 2] rfl rfl rfl rfl) rfl rfl (Nat.le_of_ble_eq_true rfl) (fun H locs hP hD hS => ?_)
          replace hP : va_P D vwCl (cM a cI ss u91_mm im wa hi le ro re lm rm pl nu gi bg bm sd) H := hP
          replace hD : va_D A (cM a cI ss u91_mm im wa hi le ro re lm rm pl nu gi bg bm sd) := hD
          refine lv_aload_n hx hb dX4_bestSays_94 rfl (lv_at hl 0 rfl) ?_
          refine va_get (D := D) (ci := 4) (v := .ref (a 2)) (C := RX4) (T := TX4) (N := 16) hx hb hts i4 hown hK hP 0 rfl rfl 1 (by decide) f13 (fun _ h9 => h9) rfl dX4_bestSays_95 ?_
          refine lv_iload hx hb dX4_bestSays_98 (lv_at hl 4 rfl) ?_
          obtain ⟨r100, q100, h⟩ := bnd1_inv h
          refine kSI (n := 1) (As := [.int x5]) (rest := [.ref (a 2)]) CF hl hK hP hD hS hA (c_X4_ofT l D cI   x5 r100 q100) gX4_bestSays_X4_ofT rfl dX4_bestSays_100 (by decide +kernel) ⟨⟨rfl, rfl⟩, ⟨Nat.le_of_ble_eq_true rfl, Nat.le_of_ble_eq_true rfl⟩, Nat.zero_le _, Nat.zero_le _⟩ (JN.ro [] rfl rfl) rfl rfl (Nat.le_of_ble_eq_true rfl) (fun H locs hP hD hS => ?_)
          refine lv_iconst (v := 4) hx hb dX4_bestSays_103 (by decide) ?_
          refine lv_iadd hx hb dX4_bestSays_104 ?_
          refine lv_iload hx hb dX4_bestSays_105 (lv_at hl 5 rfl) ?_
          obtain ⟨g107, h⟩ := chk_inv h
          refine va_iast (n := 61) (f := u91_mm) hx hb hK hP hD hS 2 0 rfl rfl g107 dX4_bestSays_107 (fun H locs hP hD hS => ?_)
          replace hP : va_P D vwCl (cM a cI ss (upd u91_mm (Int32.toNatClampNeg (r100 + (4 : Int32))) x6) im wa hi le ro re lm rm pl nu gi bg bm sd) H := hP
          replace hD : va_D A (cM a cI ss (upd u91_mm (Int32.toNatClampNeg (r100 + (4 : Int32))) x6) im wa hi le ro re lm rm pl nu gi bg bm sd) := hD
          refine lv_aload_n hx hb dX4_bestSays_108 rfl (lv_at hl 0 rfl) ?_
          refine lv_iload_n hx hb dX4_bestSays_109 rfl (lv_at hl 1 rfl) ?_
          obtain ⟨r110, u110_mm, q110, h⟩ := bnd2_inv h
          refine kVI (n := 1) (As := [.int x1]) (rest := []) CF hl hK hP hD hS hA (c_X4_wholeBehind l D cI a ss (upd u91_mm (Int32.toNatClampNeg (r100 + (4 : Int32))) x6) im wa hi le ro re lm rm pl nu gi bg bm sd x1 r110 u110_mm q110) gX4_bestSays_X4_wholeBehind rfl dX4_bestSays_110 (by decide +kernel) ⟨⟨rfl, rfl⟩, ⟨Nat.le_of_ble_eq_true rfl, Nat.le_of_ble_eq_true rfl⟩, Nat.zero_le _, Nat.zero_le _⟩ (JN.whole (w1 := (cM a cI ss u110_mm im wa hi le ro re lm rm pl nu gi bg bm sd)) rfl) 0 rfl ⟨rfl, rfl⟩ rfl rfl (Nat.le_of_ble_eq_true rfl) (fun H locs hP hD hS => ?_)
          replace hP : va_P D vwCl (cM a cI ss u110_mm im wa hi le ro re lm rm pl nu gi bg bm sd) H := hP
          replace hD : va_D A (cM a cI ss u110_mm im wa hi le ro re lm rm pl nu gi bg bm sd) := hD
          refine lv_istore (lv' := [(7, .int r110), (0, .ref (a 0)), (1, .int x1), (3, .int x3), (4, .int x4), (5, .int x5), (6, .int x6)]) hx hb dX4_bestSays_113 hl (by decide) rfl (fun ls hl => ?_)
          refine lv_iload hx hb dX4_bestSays_115 (lv_at hl 0 rfl) ?_
          refine lv_iload_n hx hb dX4_bestSays_117 rfl (lv_at hl 3 rfl) ?_
          refine lv_icmp_gt (tgt := 124) hx hb dX4_bestSays_118 (by decide) (fun c118 => ?_) (fun c118 => ?_)
          · replace h := fx_ite_t c118 h
            refine lv_bipush (v := 10) hx hb dX4_bestSays_124 (by decide) ?_
            refine lv_iload hx hb dX4_bestSays_126 (lv_at hl 5 rfl) ?_
            refine lv_imul hx hb dX4_bestSays_128 ?_
            refine lv_iload hx hb dX4_bestSays_129 (lv_at hl 6 rfl) ?_
            refine lv_iadd hx hb dX4_bestSays_131 ?_
            refine lv_istore (lv' := [(4, .int (((10 : Int32) * x5) + x6)), (7, .int r110), (0, .ref (a 0)), (1, .int x1), (3, .int x3), (5, .int x5), (6, .int x6)]) hx hb dX4_bestSays_132 hl (by decide) rfl (fun ls hl => ?_)
            refine lv_iload hx hb dX4_bestSays_134 (lv_at hl 1 rfl) ?_
            refine lv_istore_n (lv' := [(3, .int r110), (4, .int (((10 : Int32) * x5) + x6)), (7, .int r110), (0, .ref (a 0)), (1, .int x1), (5, .int x5), (6, .int x6)]) hx hb dX4_bestSays_136 rfl hl (by decide) rfl (fun ls hl => ?_)
            refine lv_iinc (v := (x6 + 1)) (lv' := [(6, .int (x6 + 1)), (3, .int r110), (4, .int (((10 : Int32) * x5) + x6)), (7, .int r110), (0, .ref (a 0)), (1, .int x1), (5, .int x5)]) hx hb dX4_bestSays_137 hl (k := 6) rfl (by first | rfl | decide) (by decide) rfl (fun ls hl => ?_)
            refine lv_goto (tgt := 55) hx hb dX4_bestSays_140 (by decide) ?_
            exact ih _ _ _ _ _ _ _ _ h hk143 _ _ _ hP hD hS (lv_sub hl [4, 5, 1, 2, 6, 0] rfl)
          · replace h := fx_ite_f c118 h
            refine lv_goto (tgt := 137) hx hb dX4_bestSays_121 (by decide) ?_
            refine lv_iinc (v := (x6 + 1)) (lv' := [(6, .int (x6 + 1)), (7, .int r110), (0, .ref (a 0)), (1, .int x1), (3, .int x3), (4, .int x4), (5, .int x5)]) hx hb dX4_bestSays_137 hl (k := 6) rfl (by first | rfl | decide) (by decide) rfl (fun ls hl => ?_)
            refine lv_goto (tgt := 55) hx hb dX4_bestSays_140 (by decide) ?_
            exact ih _ _ _ _ _ _ _ _ h hk143 _ _ _ hP hD hS (lv_sub hl [2, 3, 4, 5, 6, 0] rfl)
  have L41 : ∀ (n : Nat) (x1 : Int32) (re : (Nat → Int32)) (x3 : Int32) (x4 : Int32) (x5 : Int32) (mm : (Nat → Int32)), fuel (fun _ _ _ _ => none) (B_X4_bestSays_41 x1 ss re) n x3 x4 x5 mm = some (res, u_mm, u_re) → 
      ∀ (H : Heap) (locs : List Loc) (ls : Array Slot), va_P D vwCl (cM a cI ss mm im wa hi le ro re lm rm pl nu gi bg bm sd) H → va_D A (cM a cI ss mm im wa hi le ro re lm rm pl nu gi bg bm sd) → va_S A s.heap H locs → lv_has ls 8 [(0, .ref (a 0)), (1, .int x1), (3, .int x3), (4, .int x4), (5, .int x5)] → W p l e { frames := 8, cells := 0, slots := 0, locals := 175 } s m args below meth c H locs 0 0 Q (F0 m 41 ls []) := by
    intro n
    induction n with
    | zero =>
      intro x1 re x3 x4 x5 mm h
      exact nomatch (show (none : Option (Int32 × (Nat → Int32) × (Nat → Int32))) = some (res, u_mm, u_re) from h)
    | succ n ih =>
      intro x1 re x3 x4 x5 mm h  H locs ls hP hD hS hl
      replace h : B_X4_bestSays_41 x1 ss re (fuel (fun _ _ _ _ => none) (B_X4_bestSays_41 x1 ss re) n) x3 x4 x5 mm = some (res, u_mm, u_re) := h
      unfold B_X4_bestSays_41 at h
      refine lv_iload hx hb dX4_bestSays_41 (lv_at hl 4 rfl) ?_
      refine lv_aload_n hx hb dX4_bestSays_43 rfl (lv_at hl 0 rfl) ?_
      refine va_get (D := D) (ci := 4) (v := .ref (a 1)) (C := RX4) (T := TX4) (N := 16) hx hb hts i4 hown hK hP 0 rfl rfl 0 (by decide) f9 (fun _ h9 => h9) rfl dX4_bestSays_44 ?_
      refine lv_iconst (v := 1) hx hb dX4_bestSays_47 (by decide) ?_
      refine ald (n := 61) (f := ss) (k := 1) hx hb hK hP 1 0 rfl rfl (fx_lit rfl) rfl dX4_bestSays_48 ?_
      refine lv_icmp_ge (tgt := 149) hx hb dX4_bestSays_49 (by decide) (fun c49 => ?_) (fun c49 => ?_)
      · replace h := fx_ite_t c49 h
        refine lv_iload hx hb dX4_bestSays_149 (lv_at hl 3 rfl) ?_
        obtain ⟨rfl, rfl, rfl⟩ := rtv3 h
        exact rI hQ hx hb hr hlocks hAe hP hS rfl rfl dX4_bestSays_151
      · replace h := fx_ite_f c49 h
        refine lv_iconst (v := 0) hx hb dX4_bestSays_52 (by decide) ?_
        refine lv_istore (lv' := [(6, .int (0 : Int32)), (0, .ref (a 0)), (1, .int x1), (3, .int x3), (4, .int x4), (5, .int x5)]) hx hb dX4_bestSays_53 hl (by decide) rfl (fun ls hl => ?_)
        refine L55 FU _ _ _ _ _ _ _ _ h (fun x3 x4 mm h H locs ls hP hD hS hl => ?_) _ _ _ hP hD hS (lv_sub hl [1, 2, 3, 4, 5, 0] rfl)
        refine lv_iinc (v := (x5 + 1)) (lv' := [(5, .int (x5 + 1)), (0, .ref (a 0)), (1, .int x1), (3, .int x3), (4, .int x4)]) hx hb dX4_bestSays_143 hl (k := 4) rfl (by first | rfl | decide) (by decide) rfl (fun ls hl => ?_)
        refine lv_goto (tgt := 41) hx hb dX4_bestSays_146 (by decide) ?_
        exact ih _ _ _ _ _ _ h  _ _ _ hP hD hS (lv_sub hl [1, 2, 3, 4, 0] rfl)
  unfold M_X4_bestSays at h
  refine lv_iload_n hx hb dX4_bestSays_0 rfl (lv_at hl 1 rfl) ?_
  refine lv_bipush (v := 99) hx hb dX4_bestSays_1 (by decide) ?_
  obtain ⟨r3, q3, h⟩ := bnd1_inv h
  refine kSI (n := 2) (As := [.int p1, .int (99 : Int32)]) (rest := []) CF hl hK hP hD hS hA (c_X4_wrongBy l D cI   p1 (99 : Int32) r3 q3) gX4_bestSays_X4_wrongBy rfl dX4_bestSays_3 (by decide +kernel) ⟨⟨rfl, rfl⟩, ⟨Nat.le_of_ble_eq_true rfl, Nat.le_of_ble_eq_true rfl⟩, Nat.zero_le _, Nat.zero_le _⟩ (JN.ro [] rfl rfl) rfl rfl (Nat.le_of_ble_eq_true rfl) (fun H locs hP hD hS => ?_)
  refine lv_istore_n (lv' := [(2, .int r3), (0, .ref (a 0)), (1, .int p1)]) hx hb dX4_bestSays_6 rfl hl (by decide) rfl (fun ls hl => ?_)
  refine lv_iload_n hx hb dX4_bestSays_7 rfl (lv_at hl 0 rfl) ?_
  refine lv_if_eq (tgt := 17) hx hb dX4_bestSays_8 (by decide) (fun c8 => ?_) (fun c8 => ?_)
  · replace h := fx_ite_t c8 h
    refine lv_aload_n hx hb dX4_bestSays_17 rfl (lv_at hl 1 rfl) ?_
    refine va_get (D := D) (ci := 4) (v := .ref (a 1)) (C := RX4) (T := TX4) (N := 16) hx hb hts i4 hown hK hP 0 rfl rfl 0 (by decide) f9 (fun _ h9 => h9) rfl dX4_bestSays_18 ?_
    refine lv_aload_n hx hb dX4_bestSays_21 rfl (lv_at hl 1 rfl) ?_
    refine va_get (D := D) (ci := 4) (v := .ref (a 2)) (C := RX4) (T := TX4) (N := 16) hx hb hts i4 hown hK hP 0 rfl rfl 1 (by decide) f13 (fun _ h9 => h9) rfl dX4_bestSays_22 ?_
    obtain ⟨u25_mm, q25, h⟩ := bnd1_inv h
    refine kSV (n := 2) (As := [.ref (a 1), .ref (a 2)]) (rest := []) CF hl hK hP hD hS hA (c_X4_copies l D cI (a 1) (a 2) ss mm  u25_mm q25) gX4_bestSays_X4_copies rfl dX4_bestSays_25 (by decide +kernel) ⟨⟨rfl, rfl⟩, ⟨Nat.le_of_ble_eq_true rfl, Nat.le_of_ble_eq_true rfl⟩, Nat.zero_le _, Nat.zero_le _⟩ (JN.sub (wst' := (cM a cI ss u25_mm im wa hi le ro re lm rm pl nu gi bg bm sd)) [1, 2] rfl rfl rfl rfl) rfl rfl (Nat.le_of_ble_eq_true rfl) (fun H locs hP hD hS => ?_)
    replace hP : va_P D vwCl (cM a cI ss u25_mm im wa hi le ro re lm rm pl nu gi bg bm sd) H := hP
    replace hD : va_D A (cM a cI ss u25_mm im wa hi le ro re lm rm pl nu gi bg bm sd) := hD
    refine lv_aload_n hx hb dX4_bestSays_28 rfl (lv_at hl 1 rfl) ?_
    refine lv_iload_n hx hb dX4_bestSays_29 rfl (lv_at hl 2 rfl) ?_
    obtain ⟨r30, u30_mm, q30, h⟩ := bnd2_inv h
    refine kVI (n := 1) (As := [.int p1]) (rest := []) CF hl hK hP hD hS hA (c_X4_wholeBehind l D cI a ss u25_mm im wa hi le ro re lm rm pl nu gi bg bm sd p1 r30 u30_mm q30) gX4_bestSays_X4_wholeBehind rfl dX4_bestSays_30 (by decide +kernel) ⟨⟨rfl, rfl⟩, ⟨Nat.le_of_ble_eq_true rfl, Nat.le_of_ble_eq_true rfl⟩, Nat.zero_le _, Nat.zero_le _⟩ (JN.whole (w1 := (cM a cI ss u30_mm im wa hi le ro re lm rm pl nu gi bg bm sd)) rfl) 0 rfl ⟨rfl, rfl⟩ rfl rfl (Nat.le_of_ble_eq_true rfl) (fun H locs hP hD hS => ?_)
    replace hP : va_P D vwCl (cM a cI ss u30_mm im wa hi le ro re lm rm pl nu gi bg bm sd) H := hP
    replace hD : va_D A (cM a cI ss u30_mm im wa hi le ro re lm rm pl nu gi bg bm sd) := hD
    refine lv_istore_n (lv' := [(3, .int r30), (2, .int r3), (0, .ref (a 0)), (1, .int p1)]) hx hb dX4_bestSays_33 rfl hl (by decide) rfl (fun ls hl => ?_)
    refine lv_bipush (v := (-9)) hx hb dX4_bestSays_34 (by decide) ?_
    refine lv_istore (lv' := [(4, .int (-9 : Int32)), (3, .int r30), (2, .int r3), (0, .ref (a 0)), (1, .int p1)]) hx hb dX4_bestSays_36 hl (by decide) rfl (fun ls hl => ?_)
    refine lv_iconst (v := 0) hx hb dX4_bestSays_38 (by decide) ?_
    refine lv_istore (lv' := [(5, .int (0 : Int32)), (4, .int (-9 : Int32)), (3, .int r30), (2, .int r3), (0, .ref (a 0)), (1, .int p1)]) hx hb dX4_bestSays_39 hl (by decide) rfl (fun ls hl => ?_)
    exact L41 FU _ _ _ _ _ _ h  _ _ _ hP hD hS (lv_sub hl [4, 5, 2, 1, 0] rfl)
  · replace h := fx_ite_f c8 h
    refine lv_aload_n hx hb dX4_bestSays_11 rfl (lv_at hl 1 rfl) ?_
    refine lv_iload_n hx hb dX4_bestSays_12 rfl (lv_at hl 0 rfl) ?_
    obtain ⟨r13, u13_re, q13, h⟩ := bnd2_inv h
    refine kVI (n := 1) (As := [.int r3]) (rest := []) CF hl hK hP hD hS hA (c_X4_no l D cI a ss mm im wa hi le ro re lm rm pl nu gi bg bm sd r3 r13 u13_re q13) gX4_bestSays_X4_no rfl dX4_bestSays_13 (by decide +kernel) ⟨⟨rfl, rfl⟩, ⟨Nat.le_of_ble_eq_true rfl, Nat.le_of_ble_eq_true rfl⟩, Nat.zero_le _, Nat.zero_le _⟩ (JN.whole (w1 := (cM a cI ss mm im wa hi le ro u13_re lm rm pl nu gi bg bm sd)) rfl) 0 rfl ⟨rfl, rfl⟩ rfl rfl (Nat.le_of_ble_eq_true rfl) (fun H locs hP hD hS => ?_)
    replace hP : va_P D vwCl (cM a cI ss mm im wa hi le ro u13_re lm rm pl nu gi bg bm sd) H := hP
    replace hD : va_D A (cM a cI ss mm im wa hi le ro u13_re lm rm pl nu gi bg bm sd) := hD
    obtain ⟨rfl, rfl, rfl⟩ := rtv3 h
    exact rI hQ hx hb hr hlocks hAe hP hS rfl rfl dX4_bestSays_16
/-! X4_canSay -/
set_option maxHeartbeats 4000000 in
set_option maxRecDepth 100000 in
theorem c_X4_canSay (l : Launch) (D : va_G) (cI : ClassId) (a : Nat → Nat) (ss : (Nat → Int32)) (mm : (Nat → Int32)) (im : (Nat → Int32)) (wa : (Nat → Int32)) (hi : Int32) (le : (Nat → Int32)) (ro : (Nat → Int32)) (re : (Nat → Int32)) (lm : Int32) (rm : Int32) (pl : Int32) (nu : (Nat → Int32)) (gi : (Nat → Int32)) (bg : (Nat → Int32)) (bm : Int32) (sd : Int32) (p1 : Int32) (p2 : Int32) (res : Int32) (h : M_X4_canSay ss p1 p2 = some res) : mI l yX4_canSay wsX4_canSay { frames := 4, cells := 0, slots := 0, locals := 88 } D cI [.ref (a 0), .int p1, .int p2] (cM a cI ss mm im wa hi le ro re lm rm pl nu gi bg bm sd) (cM a cI ss mm im wa hi le ro re lm rm pl nu gi bg bm sd) res := by
  intro sz
  refine mStart (cc := cX4_canSay) (maxL := 4) (ret := (some .boolean)) (own := RX4) (by decide) rfl rfl (Nat.le_of_ble_eq_true rfl) (lv := [(0, .ref (a 0)), (1, .int p1), (2, .int p2)]) rfl ?_
  intro p e s m args below meth c A ls Q H locs CF hr hlocks hK hP hD hS hA hAe hl hQ
  obtain ⟨hx, hb, hml, hown, hts⟩ := id CF
  have f9 := hts (.fieldLink RX4 9 "MendAnothersBreakingModel" "s" "[I") (List.mem_of_getElem? (i := 1) rfl)
  have i4 : ∀ w ∈ wsX40, w ∈ wsX4_canSay := fun w h => List.mem_cons_of_mem _ (List.mem_append_right _ h)
  have L2 : ∀ (n : Nat) (x1 : Int32) (x2 : Int32) (x3 : Int32), fuel (fun _ => none) (B_X4_canSay_2 x1 x2 ss) n x3 = some res → 
      ∀ (H : Heap) (locs : List Loc) (ls : Array Slot), va_P D vwCl (cM a cI ss mm im wa hi le ro re lm rm pl nu gi bg bm sd) H → va_D A (cM a cI ss mm im wa hi le ro re lm rm pl nu gi bg bm sd) → va_S A s.heap H locs → lv_has ls 4 [(0, .ref (a 0)), (1, .int x1), (2, .int x2), (3, .int x3)] → W p l e { frames := 4, cells := 0, slots := 0, locals := 88 } s m args below meth c H locs 0 0 Q (F0 m 2 ls []) := by
    intro n
    induction n with
    | zero =>
      intro x1 x2 x3 h
      exact nomatch (show (none : Option (Int32)) = some res from h)
    | succ n ih =>
      intro x1 x2 x3 h  H locs ls hP hD hS hl
      replace h : B_X4_canSay_2 x1 x2 ss (fuel (fun _ => none) (B_X4_canSay_2 x1 x2 ss) n) x3 = some res := h
      unfold B_X4_canSay_2 at h
      refine lv_iload_n hx hb dX4_canSay_2 rfl (lv_at hl 3 rfl) ?_
      refine lv_aload_n hx hb dX4_canSay_3 rfl (lv_at hl 0 rfl) ?_
      refine va_get (D := D) (ci := 4) (v := .ref (a 1)) (C := RX4) (T := TX4) (N := 16) hx hb hts i4 hown hK hP 0 rfl rfl 0 (by decide) f9 (fun _ h9 => h9) rfl dX4_canSay_4 ?_
      refine lv_iconst (v := 0) hx hb dX4_canSay_7 (by decide) ?_
      refine ald (n := 61) (f := ss) (k := 0) hx hb hK hP 1 0 rfl rfl (fx_lit rfl) rfl dX4_canSay_8 ?_
      refine lv_icmp_ge (tgt := 42) hx hb dX4_canSay_9 (by decide) (fun c9 => ?_) (fun c9 => ?_)
      · replace h := fx_ite_t c9 h
        refine lv_iconst (v := 0) hx hb dX4_canSay_42 (by decide) ?_
        obtain rfl := rtv1 h
        exact rI hQ hx hb hr hlocks hAe hP hS rfl rfl dX4_canSay_43
      · replace h := fx_ite_f c9 h
        refine lv_iload_n hx hb dX4_canSay_12 rfl (lv_at hl 1 rfl) ?_
        refine lv_iload_n hx hb dX4_canSay_13 rfl (lv_at hl 3 rfl) ?_
        obtain ⟨r14, q14, h⟩ := bnd1_inv h
        refine kSI (n := 2) (As := [.int x1, .int x3]) (rest := []) CF hl hK hP hD hS hA (c_X4_has l D cI   x1 x3 r14 q14) gX4_canSay_X4_has rfl dX4_canSay_14 (by decide +kernel) ⟨⟨rfl, rfl⟩, ⟨Nat.le_of_ble_eq_true rfl, Nat.le_of_ble_eq_true rfl⟩, Nat.zero_le _, Nat.zero_le _⟩ (JN.ro [] rfl rfl) rfl rfl (Nat.le_of_ble_eq_true rfl) (fun H locs hP hD hS => ?_)
        refine lv_if_eq (tgt := 36) hx hb dX4_canSay_17 (by decide) (fun c17 => ?_) (fun c17 => ?_)
        · replace h := fx_ite_t c17 h
          refine lv_iinc (v := (x3 + 1)) (lv' := [(3, .int (x3 + 1)), (0, .ref (a 0)), (1, .int x1), (2, .int x2)]) hx hb dX4_canSay_36 hl (k := 3) rfl (by first | rfl | decide) (by decide) rfl (fun ls hl => ?_)
          refine lv_goto (tgt := 2) hx hb dX4_canSay_39 (by decide) ?_
          exact ih _ _ _ h  _ _ _ hP hD hS (lv_sub hl [1, 2, 3, 0] rfl)
        · replace h := fx_ite_f c17 h
          refine lv_aload_n hx hb dX4_canSay_20 rfl (lv_at hl 0 rfl) ?_
          refine lv_iload_n hx hb dX4_canSay_21 rfl (lv_at hl 2 rfl) ?_
          obtain ⟨r22, q22, h⟩ := bnd1_inv h
          refine kVI (n := 1) (As := [.int x2]) (rest := []) CF hl hK hP hD hS hA (c_X4_mendersOf l D cI a ss mm im wa hi le ro re lm rm pl nu gi bg bm sd x2 r22 q22) gX4_canSay_X4_mendersOf rfl dX4_canSay_22 (by decide +kernel) ⟨⟨rfl, rfl⟩, ⟨Nat.le_of_ble_eq_true rfl, Nat.le_of_ble_eq_true rfl⟩, Nat.zero_le _, Nat.zero_le _⟩ (JN.whole rfl) 0 rfl ⟨rfl, rfl⟩ rfl rfl (Nat.le_of_ble_eq_true rfl) (fun H locs hP hD hS => ?_)
          replace hP : va_P D vwCl (cM a cI ss mm im wa hi le ro re lm rm pl nu gi bg bm sd) H := hP
          replace hD : va_D A (cM a cI ss mm im wa hi le ro re lm rm pl nu gi bg bm sd) := hD
          refine lv_iconst (v := 1) hx hb dX4_canSay_25 (by decide) ?_
          refine lv_iload_n hx hb dX4_canSay_26 rfl (lv_at hl 3 rfl) ?_
          refine lv_ishl hx hb dX4_canSay_27 ?_
          refine lv_iconst (v := (-1)) hx hb dX4_canSay_28 (by decide) ?_
          refine lv_ixor hx hb dX4_canSay_29 ?_
          refine lv_iand hx hb dX4_canSay_30 ?_
          refine lv_if_eq (tgt := 36) hx hb dX4_canSay_31 (by decide) (fun c31 => ?_) (fun c31 => ?_)
          · replace h := fx_ite_t c31 h
            refine lv_iinc (v := (x3 + 1)) (lv' := [(3, .int (x3 + 1)), (0, .ref (a 0)), (1, .int x1), (2, .int x2)]) hx hb dX4_canSay_36 hl (k := 3) rfl (by first | rfl | decide) (by decide) rfl (fun ls hl => ?_)
            refine lv_goto (tgt := 2) hx hb dX4_canSay_39 (by decide) ?_
            exact ih _ _ _ h  _ _ _ hP hD hS (lv_sub hl [1, 2, 3, 0] rfl)
          · replace h := fx_ite_f c31 h
            refine lv_iconst (v := 1) hx hb dX4_canSay_34 (by decide) ?_
            obtain rfl := rtv1 h
            exact rI hQ hx hb hr hlocks hAe hP hS rfl rfl dX4_canSay_35
  unfold M_X4_canSay at h
  refine lv_iconst (v := 0) hx hb dX4_canSay_0 (by decide) ?_
  refine lv_istore_n (lv' := [(3, .int (0 : Int32)), (0, .ref (a 0)), (1, .int p1), (2, .int p2)]) hx hb dX4_canSay_1 rfl hl (by decide) rfl (fun ls hl => ?_)
  exact L2 FU _ _ _ h  _ _ _ hP hD hS (lv_sub hl [1, 2, 3, 0] rfl)
/-! X4_confessions -/
set_option maxHeartbeats 4000000 in
set_option maxRecDepth 100000 in
theorem c_X4_confessions (l : Launch) (D : va_G) (cI : ClassId) (a : Nat → Nat) (ss : (Nat → Int32)) (mm : (Nat → Int32)) (im : (Nat → Int32)) (wa : (Nat → Int32)) (hi : Int32) (le : (Nat → Int32)) (ro : (Nat → Int32)) (re : (Nat → Int32)) (lm : Int32) (rm : Int32) (pl : Int32) (nu : (Nat → Int32)) (gi : (Nat → Int32)) (bg : (Nat → Int32)) (bm : Int32) (sd : Int32)  (res : Int32) (h : M_X4_confessions ss = some res) : mI l yX4_confessions wsX4_confessions { frames := 5, cells := 0, slots := 0, locals := 111 } D cI [.ref (a 0)] (cM a cI ss mm im wa hi le ro re lm rm pl nu gi bg bm sd) (cM a cI ss mm im wa hi le ro re lm rm pl nu gi bg bm sd) res := by
  intro sz
  refine mStart (cc := cX4_confessions) (maxL := 5) (ret := (some .int)) (own := RX4) (by decide) rfl rfl (Nat.le_of_ble_eq_true rfl) (lv := [(0, .ref (a 0))]) rfl ?_
  intro p e s m args below meth c A ls Q H locs CF hr hlocks hK hP hD hS hA hAe hl hQ
  obtain ⟨hx, hb, hml, hown, hts⟩ := id CF
  have f9 := hts (.fieldLink RX4 9 "MendAnothersBreakingModel" "s" "[I") (List.mem_of_getElem? (i := 1) rfl)
  have i4 : ∀ w ∈ wsX40, w ∈ wsX4_confessions := fun w h => List.mem_cons_of_mem _ (List.mem_append_right _ h)
  have L41 : ∀ (n : Nat) (x1 : Int32) (x2 : Int32) (k95 : Int32 → Option (Int32)) (x3 : Int32) (x4 : Int32), fuel (fun _ _ => none) (B_X4_confessions_41 x1 x2 ss k95) n x3 x4 = some res → 
      (∀ (x3 : Int32), k95 x3 = some res → ∀ (H : Heap) (locs : List Loc) (ls : Array Slot), va_P D vwCl (cM a cI ss mm im wa hi le ro re lm rm pl nu gi bg bm sd) H → va_D A (cM a cI ss mm im wa hi le ro re lm rm pl nu gi bg bm sd) → va_S A s.heap H locs → lv_has ls 5 [(0, .ref (a 0)), (1, .int x1), (2, .int x2), (3, .int x3)] → W p l e { frames := 5, cells := 0, slots := 0, locals := 111 } s m args below meth c H locs 0 0 Q (F0 m 95 ls [])) → 
      ∀ (H : Heap) (locs : List Loc) (ls : Array Slot), va_P D vwCl (cM a cI ss mm im wa hi le ro re lm rm pl nu gi bg bm sd) H → va_D A (cM a cI ss mm im wa hi le ro re lm rm pl nu gi bg bm sd) → va_S A s.heap H locs → lv_has ls 5 [(0, .ref (a 0)), (1, .int x1), (2, .int x2), (3, .int x3), (4, .int x4)] → W p l e { frames := 5, cells := 0, slots := 0, locals := 111 } s m args below meth c H locs 0 0 Q (F0 m 41 ls []) := by
    intro n
    induction n with
    | zero =>
      intro x1 x2 k95 x3 x4 h
      exact nomatch (show (none : Option (Int32)) = some res from h)
    | succ n ih =>
      intro x1 x2 k95 x3 x4 h hk95 H locs ls hP hD hS hl
      replace h : B_X4_confessions_41 x1 x2 ss k95 (fuel (fun _ _ => none) (B_X4_confessions_41 x1 x2 ss k95) n) x3 x4 = some res := h
      unfold B_X4_confessions_41 at h
      refine lv_iload hx hb dX4_confessions_41 (lv_at hl 4 rfl) ?_
      refine lv_aload_n hx hb dX4_confessions_43 rfl (lv_at hl 0 rfl) ?_
      refine va_get (D := D) (ci := 4) (v := .ref (a 1)) (C := RX4) (T := TX4) (N := 16) hx hb hts i4 hown hK hP 0 rfl rfl 0 (by decide) f9 (fun _ h9 => h9) rfl dX4_confessions_44 ?_
      refine lv_iconst (v := 1) hx hb dX4_confessions_47 (by decide) ?_
      refine ald (n := 61) (f := ss) (k := 1) hx hb hK hP 1 0 rfl rfl (fx_lit rfl) rfl dX4_confessions_48 ?_
      refine lv_icmp_ge (tgt := 95) hx hb dX4_confessions_49 (by decide) (fun c49 => ?_) (fun c49 => ?_)
      · replace h := fx_ite_t c49 h
        exact hk95 _ h _ _ _ hP hD hS (lv_sub hl [0, 1, 2, 3] rfl)
      · replace h := fx_ite_f c49 h
        refine lv_iload_n hx hb dX4_confessions_52 rfl (lv_at hl 3 rfl) ?_
        refine lv_if_eq (tgt := 95) hx hb dX4_confessions_53 (by decide) (fun c53 => ?_) (fun c53 => ?_)
        · replace h := fx_ite_t c53 h
          exact hk95 _ h _ _ _ hP hD hS (lv_sub hl [0, 1, 2, 3] rfl)
        · replace h := fx_ite_f c53 h
          refine lv_aload_n hx hb dX4_confessions_56 rfl (lv_at hl 0 rfl) ?_
          refine va_get (D := D) (ci := 4) (v := .ref (a 1)) (C := RX4) (T := TX4) (N := 16) hx hb hts i4 hown hK hP 0 rfl rfl 0 (by decide) f9 (fun _ h9 => h9) rfl dX4_confessions_57 ?_
          refine lv_iload hx hb dX4_confessions_60 (lv_at hl 4 rfl) ?_
          obtain ⟨r62, q62, h⟩ := bnd1_inv h
          refine kSI (n := 1) (As := [.int x4]) (rest := [.ref (a 1)]) CF hl hK hP hD hS hA (c_X4_ofT l D cI   x4 r62 q62) gX4_confessions_X4_ofT rfl dX4_confessions_62 (by decide +kernel) ⟨⟨rfl, rfl⟩, ⟨Nat.le_of_ble_eq_true rfl, Nat.le_of_ble_eq_true rfl⟩, Nat.zero_le _, Nat.zero_le _⟩ (JN.ro [] rfl rfl) rfl rfl (Nat.le_of_ble_eq_true rfl) (fun H locs hP hD hS => ?_)
          refine lv_iconst (v := 4) hx hb dX4_confessions_65 (by decide) ?_
          refine lv_iadd hx hb dX4_confessions_66 ?_
          obtain ⟨g67, h⟩ := chk_inv h
          refine va_iald (n := 61) (f := ss) hx hb hK hP 1 0 rfl rfl g67 dX4_confessions_67 ?_
          refine lv_bipush (v := (-8)) hx hb dX4_confessions_68 (by decide) ?_
          refine lv_icmp_ne (tgt := 83) hx hb dX4_confessions_70 (by decide) (fun c70 => ?_) (fun c70 => ?_)
          · replace h := fx_ite_f c70 h
            refine lv_iconst (v := 1) hx hb dX4_confessions_83 (by decide) ?_
            refine lv_goto (tgt := 88) hx hb dX4_confessions_84 (by decide) ?_
            refine lv_istore_n (lv' := [(3, .int (1 : Int32)), (0, .ref (a 0)), (1, .int x1), (2, .int x2), (4, .int x4)]) hx hb dX4_confessions_88 rfl hl (by decide) rfl (fun ls hl => ?_)
            refine lv_iinc (v := (x4 + 1)) (lv' := [(4, .int (x4 + 1)), (3, .int (1 : Int32)), (0, .ref (a 0)), (1, .int x1), (2, .int x2)]) hx hb dX4_confessions_89 hl (k := 4) rfl (by first | rfl | decide) (by decide) rfl (fun ls hl => ?_)
            refine lv_goto (tgt := 41) hx hb dX4_confessions_92 (by decide) ?_
            exact ih _ _ _ _ _ h hk95 _ _ _ hP hD hS (lv_sub hl [2, 3, 4, 1, 0] rfl)
          · replace h := fx_ite_t c70 h
            refine lv_aload_n hx hb dX4_confessions_73 rfl (lv_at hl 0 rfl) ?_
            refine lv_iload_n hx hb dX4_confessions_74 rfl (lv_at hl 2 rfl) ?_
            refine lv_iload hx hb dX4_confessions_75 (lv_at hl 4 rfl) ?_
            obtain ⟨r77, q77, h⟩ := bnd1_inv h
            refine kVI (n := 2) (As := [.int x2, .int x4]) (rest := []) CF hl hK hP hD hS hA (c_X4_canSay l D cI a ss mm im wa hi le ro re lm rm pl nu gi bg bm sd x2 x4 r77 q77) gX4_confessions_X4_canSay rfl dX4_confessions_77 (by decide +kernel) ⟨⟨rfl, rfl⟩, ⟨Nat.le_of_ble_eq_true rfl, Nat.le_of_ble_eq_true rfl⟩, Nat.zero_le _, Nat.zero_le _⟩ (JN.whole rfl) 0 rfl ⟨rfl, rfl⟩ rfl rfl (Nat.le_of_ble_eq_true rfl) (fun H locs hP hD hS => ?_)
            replace hP : va_P D vwCl (cM a cI ss mm im wa hi le ro re lm rm pl nu gi bg bm sd) H := hP
            replace hD : va_D A (cM a cI ss mm im wa hi le ro re lm rm pl nu gi bg bm sd) := hD
            refine lv_if_eq (tgt := 87) hx hb dX4_confessions_80 (by decide) (fun c80 => ?_) (fun c80 => ?_)
            · replace h := fx_ite_t c80 h
              refine lv_iconst (v := 0) hx hb dX4_confessions_87 (by decide) ?_
              refine lv_istore_n (lv' := [(3, .int (0 : Int32)), (0, .ref (a 0)), (1, .int x1), (2, .int x2), (4, .int x4)]) hx hb dX4_confessions_88 rfl hl (by decide) rfl (fun ls hl => ?_)
              refine lv_iinc (v := (x4 + 1)) (lv' := [(4, .int (x4 + 1)), (3, .int (0 : Int32)), (0, .ref (a 0)), (1, .int x1), (2, .int x2)]) hx hb dX4_confessions_89 hl (k := 4) rfl (by first | rfl | decide) (by decide) rfl (fun ls hl => ?_)
              refine lv_goto (tgt := 41) hx hb dX4_confessions_92 (by decide) ?_
              exact ih _ _ _ _ _ h hk95 _ _ _ hP hD hS (lv_sub hl [2, 3, 4, 1, 0] rfl)
            · replace h := fx_ite_f c80 h
              refine lv_iconst (v := 1) hx hb dX4_confessions_83 (by decide) ?_
              refine lv_goto (tgt := 88) hx hb dX4_confessions_84 (by decide) ?_
              refine lv_istore_n (lv' := [(3, .int (1 : Int32)), (0, .ref (a 0)), (1, .int x1), (2, .int x2), (4, .int x4)]) hx hb dX4_confessions_88 rfl hl (by decide) rfl (fun ls hl => ?_)
              refine lv_iinc (v := (x4 + 1)) (lv' := [(4, .int (x4 + 1)), (3, .int (1 : Int32)), (0, .ref (a 0)), (1, .int x1), (2, .int x2)]) hx hb dX4_confessions_89 hl (k := 4) rfl (by first | rfl | decide) (by decide) rfl (fun ls hl => ?_)
              refine lv_goto (tgt := 41) hx hb dX4_confessions_92 (by decide) ?_
              exact ih _ _ _ _ _ h hk95 _ _ _ hP hD hS (lv_sub hl [2, 3, 4, 1, 0] rfl)
  have L5 : ∀ (n : Nat)  (x1 : Int32) (x2 : Int32), fuel (fun _ _ => none) (B_X4_confessions_5 ss) n x1 x2 = some res → 
      ∀ (H : Heap) (locs : List Loc) (ls : Array Slot), va_P D vwCl (cM a cI ss mm im wa hi le ro re lm rm pl nu gi bg bm sd) H → va_D A (cM a cI ss mm im wa hi le ro re lm rm pl nu gi bg bm sd) → va_S A s.heap H locs → lv_has ls 5 [(0, .ref (a 0)), (1, .int x1), (2, .int x2)] → W p l e { frames := 5, cells := 0, slots := 0, locals := 111 } s m args below meth c H locs 0 0 Q (F0 m 5 ls []) := by
    intro n
    induction n with
    | zero =>
      intro x1 x2 h
      exact nomatch (show (none : Option (Int32)) = some res from h)
    | succ n ih =>
      intro x1 x2 h  H locs ls hP hD hS hl
      replace h : B_X4_confessions_5 ss (fuel (fun _ _ => none) (B_X4_confessions_5 ss) n) x1 x2 = some res := h
      unfold B_X4_confessions_5 at h
      refine lv_iload_n hx hb dX4_confessions_5 rfl (lv_at hl 2 rfl) ?_
      refine lv_iconst (v := 1) hx hb dX4_confessions_6 (by decide) ?_
      refine lv_aload_n hx hb dX4_confessions_7 rfl (lv_at hl 0 rfl) ?_
      refine va_get (D := D) (ci := 4) (v := .ref (a 1)) (C := RX4) (T := TX4) (N := 16) hx hb hts i4 hown hK hP 0 rfl rfl 0 (by decide) f9 (fun _ h9 => h9) rfl dX4_confessions_8 ?_
      refine lv_iconst (v := 0) hx hb dX4_confessions_11 (by decide) ?_
      refine ald (n := 61) (f := ss) (k := 0) hx hb hK hP 1 0 rfl rfl (fx_lit rfl) rfl dX4_confessions_12 ?_
      refine lv_ishl hx hb dX4_confessions_13 ?_
      refine lv_icmp_ge (tgt := 111) hx hb dX4_confessions_14 (by decide) (fun c14 => ?_) (fun c14 => ?_)
      · replace h := fx_ite_t c14 h
        refine lv_iload_n hx hb dX4_confessions_111 rfl (lv_at hl 1 rfl) ?_
        obtain rfl := rtv1 h
        exact rI hQ hx hb hr hlocks hAe hP hS rfl rfl dX4_confessions_112
      · replace h := fx_ite_f c14 h
        refine lv_iload_n hx hb dX4_confessions_17 rfl (lv_at hl 1 rfl) ?_
        refine lv_if_lt (tgt := 32) hx hb dX4_confessions_18 (by decide) (fun c18 => ?_) (fun c18 => ?_)
        · replace h := fx_ite_t c18 h
          refine lv_iconst (v := 1) hx hb dX4_confessions_32 (by decide) ?_
          refine lv_goto (tgt := 37) hx hb dX4_confessions_33 (by decide) ?_
          refine lv_istore_n (lv' := [(3, .int (1 : Int32)), (0, .ref (a 0)), (1, .int x1), (2, .int x2)]) hx hb dX4_confessions_37 rfl hl (by decide) rfl (fun ls hl => ?_)
          refine lv_iconst (v := 0) hx hb dX4_confessions_38 (by decide) ?_
          refine lv_istore (lv' := [(4, .int (0 : Int32)), (3, .int (1 : Int32)), (0, .ref (a 0)), (1, .int x1), (2, .int x2)]) hx hb dX4_confessions_39 hl (by decide) rfl (fun ls hl => ?_)
          refine L41 FU _ _ _ _ _ h (fun x3 h H locs ls hP hD hS hl => ?_) _ _ _ hP hD hS (lv_sub hl [2, 3, 4, 1, 0] rfl)
          refine lv_iload_n hx hb dX4_confessions_95 rfl (lv_at hl 3 rfl) ?_
          refine lv_if_eq (tgt := 103) hx hb dX4_confessions_96 (by decide) (fun c96 => ?_) (fun c96 => ?_)
          · replace h := fx_ite_t c96 h
            refine lv_iload_n hx hb dX4_confessions_103 rfl (lv_at hl 1 rfl) ?_
            refine lv_istore_n (lv' := [(1, .int x1), (0, .ref (a 0)), (2, .int x2), (3, .int x3)]) hx hb dX4_confessions_104 rfl hl (by decide) rfl (fun ls hl => ?_)
            refine lv_iinc (v := (x2 + 1)) (lv' := [(2, .int (x2 + 1)), (1, .int x1), (0, .ref (a 0)), (3, .int x3)]) hx hb dX4_confessions_105 hl (k := 2) rfl (by first | rfl | decide) (by decide) rfl (fun ls hl => ?_)
            refine lv_goto (tgt := 5) hx hb dX4_confessions_108 (by decide) ?_
            exact ih _ _ h  _ _ _ hP hD hS (lv_sub hl [2, 1, 0] rfl)
          · replace h := fx_ite_f c96 h
            refine lv_iload_n hx hb dX4_confessions_99 rfl (lv_at hl 2 rfl) ?_
            refine lv_goto (tgt := 104) hx hb dX4_confessions_100 (by decide) ?_
            refine lv_istore_n (lv' := [(1, .int x2), (0, .ref (a 0)), (2, .int x2), (3, .int x3)]) hx hb dX4_confessions_104 rfl hl (by decide) rfl (fun ls hl => ?_)
            refine lv_iinc (v := (x2 + 1)) (lv' := [(2, .int (x2 + 1)), (1, .int x2), (0, .ref (a 0)), (3, .int x3)]) hx hb dX4_confessions_105 hl (k := 2) rfl (by first | rfl | decide) (by decide) rfl (fun ls hl => ?_)
            refine lv_goto (tgt := 5) hx hb dX4_confessions_108 (by decide) ?_
            exact ih _ _ h  _ _ _ hP hD hS (lv_sub hl [2, 1, 0] rfl)
        · replace h := fx_ite_f c18 h
          refine lv_iload_n hx hb dX4_confessions_21 rfl (lv_at hl 2 rfl) ?_
          obtain ⟨r22, q22, h⟩ := bnd1_inv h
          refine kSI (n := 1) (As := [.int x2]) (rest := []) CF hl hK hP hD hS hA (c_X4_bits l D cI   x2 r22 q22) gX4_confessions_X4_bits rfl dX4_confessions_22 (by decide +kernel) ⟨⟨rfl, rfl⟩, ⟨Nat.le_of_ble_eq_true rfl, Nat.le_of_ble_eq_true rfl⟩, Nat.zero_le _, Nat.zero_le _⟩ (JN.ro [] rfl rfl) rfl rfl (Nat.le_of_ble_eq_true rfl) (fun H locs hP hD hS => ?_)
          refine lv_iload_n hx hb dX4_confessions_25 rfl (lv_at hl 1 rfl) ?_
          obtain ⟨r26, q26, h⟩ := bnd1_inv h
          refine kSI (n := 1) (As := [.int x1]) (rest := [.int r22]) CF hl hK hP hD hS hA (c_X4_bits l D cI   x1 r26 q26) gX4_confessions_X4_bits rfl dX4_confessions_26 (by decide +kernel) ⟨⟨rfl, rfl⟩, ⟨Nat.le_of_ble_eq_true rfl, Nat.le_of_ble_eq_true rfl⟩, Nat.zero_le _, Nat.zero_le _⟩ (JN.ro [] rfl rfl) rfl rfl (Nat.le_of_ble_eq_true rfl) (fun H locs hP hD hS => ?_)
          refine lv_icmp_ge (tgt := 36) hx hb dX4_confessions_29 (by decide) (fun c29 => ?_) (fun c29 => ?_)
          · replace h := fx_ite_t c29 h
            refine lv_iconst (v := 0) hx hb dX4_confessions_36 (by decide) ?_
            refine lv_istore_n (lv' := [(3, .int (0 : Int32)), (0, .ref (a 0)), (1, .int x1), (2, .int x2)]) hx hb dX4_confessions_37 rfl hl (by decide) rfl (fun ls hl => ?_)
            refine lv_iconst (v := 0) hx hb dX4_confessions_38 (by decide) ?_
            refine lv_istore (lv' := [(4, .int (0 : Int32)), (3, .int (0 : Int32)), (0, .ref (a 0)), (1, .int x1), (2, .int x2)]) hx hb dX4_confessions_39 hl (by decide) rfl (fun ls hl => ?_)
            refine L41 FU _ _ _ _ _ h (fun x3 h H locs ls hP hD hS hl => ?_) _ _ _ hP hD hS (lv_sub hl [2, 3, 4, 1, 0] rfl)
            refine lv_iload_n hx hb dX4_confessions_95 rfl (lv_at hl 3 rfl) ?_
            refine lv_if_eq (tgt := 103) hx hb dX4_confessions_96 (by decide) (fun c96 => ?_) (fun c96 => ?_)
            · replace h := fx_ite_t c96 h
              refine lv_iload_n hx hb dX4_confessions_103 rfl (lv_at hl 1 rfl) ?_
              refine lv_istore_n (lv' := [(1, .int x1), (0, .ref (a 0)), (2, .int x2), (3, .int x3)]) hx hb dX4_confessions_104 rfl hl (by decide) rfl (fun ls hl => ?_)
              refine lv_iinc (v := (x2 + 1)) (lv' := [(2, .int (x2 + 1)), (1, .int x1), (0, .ref (a 0)), (3, .int x3)]) hx hb dX4_confessions_105 hl (k := 2) rfl (by first | rfl | decide) (by decide) rfl (fun ls hl => ?_)
              refine lv_goto (tgt := 5) hx hb dX4_confessions_108 (by decide) ?_
              exact ih _ _ h  _ _ _ hP hD hS (lv_sub hl [2, 1, 0] rfl)
            · replace h := fx_ite_f c96 h
              refine lv_iload_n hx hb dX4_confessions_99 rfl (lv_at hl 2 rfl) ?_
              refine lv_goto (tgt := 104) hx hb dX4_confessions_100 (by decide) ?_
              refine lv_istore_n (lv' := [(1, .int x2), (0, .ref (a 0)), (2, .int x2), (3, .int x3)]) hx hb dX4_confessions_104 rfl hl (by decide) rfl (fun ls hl => ?_)
              refine lv_iinc (v := (x2 + 1)) (lv' := [(2, .int (x2 + 1)), (1, .int x2), (0, .ref (a 0)), (3, .int x3)]) hx hb dX4_confessions_105 hl (k := 2) rfl (by first | rfl | decide) (by decide) rfl (fun ls hl => ?_)
              refine lv_goto (tgt := 5) hx hb dX4_confessions_108 (by decide) ?_
              exact ih _ _ h  _ _ _ hP hD hS (lv_sub hl [2, 1, 0] rfl)
          · replace h := fx_ite_f c29 h
            refine lv_iconst (v := 1) hx hb dX4_confessions_32 (by decide) ?_
            refine lv_goto (tgt := 37) hx hb dX4_confessions_33 (by decide) ?_
            refine lv_istore_n (lv' := [(3, .int (1 : Int32)), (0, .ref (a 0)), (1, .int x1), (2, .int x2)]) hx hb dX4_confessions_37 rfl hl (by decide) rfl (fun ls hl => ?_)
            refine lv_iconst (v := 0) hx hb dX4_confessions_38 (by decide) ?_
            refine lv_istore (lv' := [(4, .int (0 : Int32)), (3, .int (1 : Int32)), (0, .ref (a 0)), (1, .int x1), (2, .int x2)]) hx hb dX4_confessions_39 hl (by decide) rfl (fun ls hl => ?_)
            refine L41 FU _ _ _ _ _ h (fun x3 h H locs ls hP hD hS hl => ?_) _ _ _ hP hD hS (lv_sub hl [2, 3, 4, 1, 0] rfl)
            refine lv_iload_n hx hb dX4_confessions_95 rfl (lv_at hl 3 rfl) ?_
            refine lv_if_eq (tgt := 103) hx hb dX4_confessions_96 (by decide) (fun c96 => ?_) (fun c96 => ?_)
            · replace h := fx_ite_t c96 h
              refine lv_iload_n hx hb dX4_confessions_103 rfl (lv_at hl 1 rfl) ?_
              refine lv_istore_n (lv' := [(1, .int x1), (0, .ref (a 0)), (2, .int x2), (3, .int x3)]) hx hb dX4_confessions_104 rfl hl (by decide) rfl (fun ls hl => ?_)
              refine lv_iinc (v := (x2 + 1)) (lv' := [(2, .int (x2 + 1)), (1, .int x1), (0, .ref (a 0)), (3, .int x3)]) hx hb dX4_confessions_105 hl (k := 2) rfl (by first | rfl | decide) (by decide) rfl (fun ls hl => ?_)
              refine lv_goto (tgt := 5) hx hb dX4_confessions_108 (by decide) ?_
              exact ih _ _ h  _ _ _ hP hD hS (lv_sub hl [2, 1, 0] rfl)
            · replace h := fx_ite_f c96 h
              refine lv_iload_n hx hb dX4_confessions_99 rfl (lv_at hl 2 rfl) ?_
              refine lv_goto (tgt := 104) hx hb dX4_confessions_100 (by decide) ?_
              refine lv_istore_n (lv' := [(1, .int x2), (0, .ref (a 0)), (2, .int x2), (3, .int x3)]) hx hb dX4_confessions_104 rfl hl (by decide) rfl (fun ls hl => ?_)
              refine lv_iinc (v := (x2 + 1)) (lv' := [(2, .int (x2 + 1)), (1, .int x2), (0, .ref (a 0)), (3, .int x3)]) hx hb dX4_confessions_105 hl (k := 2) rfl (by first | rfl | decide) (by decide) rfl (fun ls hl => ?_)
              refine lv_goto (tgt := 5) hx hb dX4_confessions_108 (by decide) ?_
              exact ih _ _ h  _ _ _ hP hD hS (lv_sub hl [2, 1, 0] rfl)
  unfold M_X4_confessions at h
  refine lv_bipush (v := (-9)) hx hb dX4_confessions_0 (by decide) ?_
  refine lv_istore_n (lv' := [(1, .int (-9 : Int32)), (0, .ref (a 0))]) hx hb dX4_confessions_2 rfl hl (by decide) rfl (fun ls hl => ?_)
  refine lv_iconst (v := 0) hx hb dX4_confessions_3 (by decide) ?_
  refine lv_istore_n (lv' := [(2, .int (0 : Int32)), (1, .int (-9 : Int32)), (0, .ref (a 0))]) hx hb dX4_confessions_4 rfl hl (by decide) rfl (fun ls hl => ?_)
  exact L5 FU _ _ h  _ _ _ hP hD hS (lv_sub hl [2, 1, 0] rfl)
