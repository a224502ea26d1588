/-! X2_hasBrokenOf -/
set_option maxHeartbeats 4000000 in
set_option maxRecDepth 100000 in
theorem c_X2_hasBrokenOf (l : Launch) (D : va_G) (cI : ClassId) (h0 h1 h2 h3 h4 h5 h6 h7 : Nat) (v : SV) (p1 : Int32) (p2 : Int32) (res : Int32) (h : M_X2_hasBrokenOf v p1 p2 = some res) : mI l yX2_hasBrokenOf wsX2_hasBrokenOf { frames := 0, cells := 0, slots := 0, locals := 0 } D cI [.ref h0, .int p1, .int p2] (cS h0 h1 h2 h3 h4 h5 h6 h7 cI v) (cS h0 h1 h2 h3 h4 h5 h6 h7 cI v) res := by
  intro sz
  refine mStart (cc := cX2_hasBrokenOf) (maxL := 4) (ret := (some .boolean)) (own := RX2) (by decide) rfl rfl (Nat.le_of_ble_eq_true rfl) (lv := [(0, .ref h0), (1, .int p1), (2, .int p2)]) rfl ?_
  intro p e s m args below meth c A ls Q H locs CF hr hlocks hK hP hD hS hA hAe hl hQ
  obtain ⟨hx, hb, hml, hown, hts⟩ := id CF
  have f24 := hts (.fieldLink RX2 24 "MendAnothersBreaking$State" "owners" "[I") (List.mem_of_getElem? (i := 3) rfl)
  have f30 := hts (.fieldLink RX2 30 "MendAnothersBreaking$State" "breakers" "[I") (List.mem_of_getElem? (i := 2) rfl)
  have f37 := hts (.fieldLink RX2 37 "MendAnothersBreaking$State" "things" "I") (List.mem_of_getElem? (i := 1) rfl)
  have i2 : ∀ w ∈ wsX20, w ∈ wsX2_hasBrokenOf := fun w h => List.mem_cons_of_mem _ (List.mem_append_right _ h)
  have L2 : ∀ (n : Nat) (x1 : Int32) (x2 : Int32) (x3 : Int32), fuel (fun _ => none) (B_X2_hasBrokenOf_2 x1 x2 v) n x3 = some res → 
      ∀ (H : Heap) (locs : List Loc) (ls : Array Slot), va_P D vwCl (cS h0 h1 h2 h3 h4 h5 h6 h7 cI v) H → va_D A (cS h0 h1 h2 h3 h4 h5 h6 h7 cI v) → va_S A s.heap H locs → lv_has ls 4 [(0, .ref h0), (1, .int x1), (2, .int x2), (3, .int x3)] → W p l e { frames := 0, cells := 0, slots := 0, locals := 0 } s m args below meth c H locs 0 0 Q (F0 m 2 ls []) := by
    intro n
    induction n with
    | zero =>
      intro x1 x2 x3 h
      exact nomatch (show (none : Option (Int32)) = some res from h)
    | succ n ih =>
      intro x1 x2 x3 h  H locs ls hP hD hS hl
      replace h : B_X2_hasBrokenOf_2 x1 x2 v (fuel (fun _ => none) (B_X2_hasBrokenOf_2 x1 x2 v) n) x3 = some res := h
      unfold B_X2_hasBrokenOf_2 at h
      refine lv_iload_n hx hb dX2_hasBrokenOf_2 rfl (lv_at hl 3 rfl) ?_
      refine lv_aload_n hx hb dX2_hasBrokenOf_3 rfl (lv_at hl 0 rfl) ?_
      refine va_get (D := D) (ci := 2) (v := .int (sTh v)) (C := RX2) (T := TX2) (N := 10) hx hb hts i2 hown hK hP 0 rfl rfl 8 (by decide) f37 (fun _ h9 => h9) rfl dX2_hasBrokenOf_4 ?_
      refine lv_icmp_ge (tgt := 38) hx hb dX2_hasBrokenOf_7 (by decide) (fun c7 => ?_) (fun c7 => ?_)
      · replace h := fx_ite_t c7 h
        refine lv_iconst (v := 0) hx hb dX2_hasBrokenOf_38 (by decide) ?_
        obtain rfl := ret1 h
        exact rI hQ hx hb hr hlocks hAe hP hS rfl rfl dX2_hasBrokenOf_39
      · replace h := fx_ite_f c7 h
        refine lv_aload_n hx hb dX2_hasBrokenOf_10 rfl (lv_at hl 0 rfl) ?_
        refine va_get (D := D) (ci := 2) (v := .ref h7) (C := RX2) (T := TX2) (N := 10) hx hb hts i2 hown hK hP 0 rfl rfl 6 (by decide) f30 (fun _ h9 => h9) rfl dX2_hasBrokenOf_11 ?_
        refine lv_iload_n hx hb dX2_hasBrokenOf_14 rfl (lv_at hl 3 rfl) ?_
        obtain ⟨g15, h⟩ := chk_inv h
        refine va_iald (n := 9) (f := (sBr v)) hx hb hK hP 7 0 rfl rfl g15 dX2_hasBrokenOf_15 ?_
        refine lv_iload_n hx hb dX2_hasBrokenOf_16 rfl (lv_at hl 1 rfl) ?_
        refine lv_icmp_ne (tgt := 32) hx hb dX2_hasBrokenOf_17 (by decide) (fun c17 => ?_) (fun c17 => ?_)
        · replace h := fx_ite_f c17 h
          refine lv_iinc (v := (x3 + 1)) (lv' := [(3, .int (x3 + 1)), (0, .ref h0), (1, .int x1), (2, .int x2)]) hx hb dX2_hasBrokenOf_32 hl (k := 3) rfl (by first | rfl | decide) (by decide) rfl (fun ls hl => ?_)
          refine lv_goto (tgt := 2) hx hb dX2_hasBrokenOf_35 (by decide) ?_
          exact ih _ _ _ h  _ _ _ hP hD hS (lv_sub hl [1, 2, 3, 0] rfl)
        · replace h := fx_ite_t c17 h
          refine lv_aload_n hx hb dX2_hasBrokenOf_20 rfl (lv_at hl 0 rfl) ?_
          refine va_get (D := D) (ci := 2) (v := .ref h5) (C := RX2) (T := TX2) (N := 10) hx hb hts i2 hown hK hP 0 rfl rfl 4 (by decide) f24 (fun _ h9 => h9) rfl dX2_hasBrokenOf_21 ?_
          refine lv_iload_n hx hb dX2_hasBrokenOf_24 rfl (lv_at hl 3 rfl) ?_
          obtain ⟨g25, h⟩ := chk_inv h
          refine va_iald (n := 9) (f := (sOw v)) hx hb hK hP 5 0 rfl rfl g25 dX2_hasBrokenOf_25 ?_
          refine lv_iload_n hx hb dX2_hasBrokenOf_26 rfl (lv_at hl 2 rfl) ?_
          refine lv_icmp_ne (tgt := 32) hx hb dX2_hasBrokenOf_27 (by decide) (fun c27 => ?_) (fun c27 => ?_)
          · replace h := fx_ite_f c27 h
            refine lv_iinc (v := (x3 + 1)) (lv' := [(3, .int (x3 + 1)), (0, .ref h0), (1, .int x1), (2, .int x2)]) hx hb dX2_hasBrokenOf_32 hl (k := 3) rfl (by first | rfl | decide) (by decide) rfl (fun ls hl => ?_)
            refine lv_goto (tgt := 2) hx hb dX2_hasBrokenOf_35 (by decide) ?_
            exact ih _ _ _ h  _ _ _ hP hD hS (lv_sub hl [1, 2, 3, 0] rfl)
          · replace h := fx_ite_t c27 h
            refine lv_iconst (v := 1) hx hb dX2_hasBrokenOf_30 (by decide) ?_
            obtain rfl := ret1 h
            exact rI hQ hx hb hr hlocks hAe hP hS rfl rfl dX2_hasBrokenOf_31
  unfold M_X2_hasBrokenOf at h
  refine lv_iconst (v := 0) hx hb dX2_hasBrokenOf_0 (by decide) ?_
  refine lv_istore_n (lv' := [(3, .int (0 : Int32)), (0, .ref h0), (1, .int p1), (2, .int p2)]) hx hb dX2_hasBrokenOf_1 rfl hl (by decide) rfl (fun ls hl => ?_)
  exact L2 FU _ _ _ h  _ _ _ hP hD hS (lv_sub hl [1, 2, 3, 0] rfl)
/-! X2_ownedBy -/
set_option maxHeartbeats 4000000 in
set_option maxRecDepth 100000 in
theorem c_X2_ownedBy (l : Launch) (D : va_G) (cI : ClassId) (h0 h1 h2 h3 h4 h5 h6 h7 : Nat) (v : SV) (p1 : Int32) (res : Int32) (h : M_X2_ownedBy v p1 = some res) : mI l yX2_ownedBy wsX2_ownedBy { frames := 0, cells := 0, slots := 0, locals := 0 } D cI [.ref h0, .int p1] (cS h0 h1 h2 h3 h4 h5 h6 h7 cI v) (cS h0 h1 h2 h3 h4 h5 h6 h7 cI v) res := by
  intro sz
  refine mStart (cc := cX2_ownedBy) (maxL := 4) (ret := (some .int)) (own := RX2) (by decide) rfl rfl (Nat.le_of_ble_eq_true rfl) (lv := [(0, .ref h0), (1, .int p1)]) rfl ?_
  intro p e s m args below meth c A ls Q H locs CF hr hlocks hK hP hD hS hA hAe hl hQ
  obtain ⟨hx, hb, hml, hown, hts⟩ := id CF
  have f24 := hts (.fieldLink RX2 24 "MendAnothersBreaking$State" "owners" "[I") (List.mem_of_getElem? (i := 2) rfl)
  have f37 := hts (.fieldLink RX2 37 "MendAnothersBreaking$State" "things" "I") (List.mem_of_getElem? (i := 1) rfl)
  have i2 : ∀ w ∈ wsX20, w ∈ wsX2_ownedBy := fun w h => List.mem_cons_of_mem _ (List.mem_append_right _ h)
  have L4 : ∀ (n : Nat) (x1 : Int32) (x2 : Int32) (x3 : Int32), fuel (fun _ _ => none) (B_X2_ownedBy_4 x1 v) n x2 x3 = some res → 
      ∀ (H : Heap) (locs : List Loc) (ls : Array Slot), va_P D vwCl (cS h0 h1 h2 h3 h4 h5 h6 h7 cI v) H → va_D A (cS h0 h1 h2 h3 h4 h5 h6 h7 cI v) → va_S A s.heap H locs → lv_has ls 4 [(0, .ref h0), (1, .int x1), (2, .int x2), (3, .int x3)] → W p l e { frames := 0, cells := 0, slots := 0, locals := 0 } s m args below meth c H locs 0 0 Q (F0 m 4 ls []) := by
    intro n
    induction n with
    | zero =>
      intro x1 x2 x3 h
      exact nomatch (show (none : Option (Int32)) = some res from h)
    | succ n ih =>
      intro x1 x2 x3 h  H locs ls hP hD hS hl
      replace h : B_X2_ownedBy_4 x1 v (fuel (fun _ _ => none) (B_X2_ownedBy_4 x1 v) n) x2 x3 = some res := h
      unfold B_X2_ownedBy_4 at h
      refine lv_iload_n hx hb dX2_ownedBy_4 rfl (lv_at hl 3 rfl) ?_
      refine lv_aload_n hx hb dX2_ownedBy_5 rfl (lv_at hl 0 rfl) ?_
      refine va_get (D := D) (ci := 2) (v := .int (sTh v)) (C := RX2) (T := TX2) (N := 10) hx hb hts i2 hown hK hP 0 rfl rfl 8 (by decide) f37 (fun _ h9 => h9) rfl dX2_ownedBy_6 ?_
      refine lv_icmp_ge (tgt := 36) hx hb dX2_ownedBy_9 (by decide) (fun c9 => ?_) (fun c9 => ?_)
      · replace h := fx_ite_t c9 h
        refine lv_iload_n hx hb dX2_ownedBy_36 rfl (lv_at hl 2 rfl) ?_
        obtain rfl := ret1 h
        exact rI hQ hx hb hr hlocks hAe hP hS rfl rfl dX2_ownedBy_37
      · replace h := fx_ite_f c9 h
        refine lv_iload_n hx hb dX2_ownedBy_12 rfl (lv_at hl 2 rfl) ?_
        refine lv_aload_n hx hb dX2_ownedBy_13 rfl (lv_at hl 0 rfl) ?_
        refine va_get (D := D) (ci := 2) (v := .ref h5) (C := RX2) (T := TX2) (N := 10) hx hb hts i2 hown hK hP 0 rfl rfl 4 (by decide) f24 (fun _ h9 => h9) rfl dX2_ownedBy_14 ?_
        refine lv_iload_n hx hb dX2_ownedBy_17 rfl (lv_at hl 3 rfl) ?_
        obtain ⟨g18, h⟩ := chk_inv h
        refine va_iald (n := 9) (f := (sOw v)) hx hb hK hP 5 0 rfl rfl g18 dX2_ownedBy_18 ?_
        refine lv_iload_n hx hb dX2_ownedBy_19 rfl (lv_at hl 1 rfl) ?_
        refine lv_icmp_ne (tgt := 27) hx hb dX2_ownedBy_20 (by decide) (fun c20 => ?_) (fun c20 => ?_)
        · replace h := fx_ite_f c20 h
          refine lv_iconst (v := 0) hx hb dX2_ownedBy_27 (by decide) ?_
          refine lv_iadd hx hb dX2_ownedBy_28 ?_
          refine lv_istore_n (lv' := [(2, .int (x2 + (0 : Int32))), (0, .ref h0), (1, .int x1), (3, .int x3)]) hx hb dX2_ownedBy_29 rfl hl (by decide) rfl (fun ls hl => ?_)
          refine lv_iinc (v := (x3 + 1)) (lv' := [(3, .int (x3 + 1)), (2, .int (x2 + (0 : Int32))), (0, .ref h0), (1, .int x1)]) hx hb dX2_ownedBy_30 hl (k := 3) rfl (by first | rfl | decide) (by decide) rfl (fun ls hl => ?_)
          refine lv_goto (tgt := 4) hx hb dX2_ownedBy_33 (by decide) ?_
          exact ih _ _ _ h  _ _ _ hP hD hS (lv_sub hl [2, 3, 1, 0] rfl)
        · replace h := fx_ite_t c20 h
          refine lv_iconst (v := 1) hx hb dX2_ownedBy_23 (by decide) ?_
          refine lv_goto (tgt := 28) hx hb dX2_ownedBy_24 (by decide) ?_
          refine lv_iadd hx hb dX2_ownedBy_28 ?_
          refine lv_istore_n (lv' := [(2, .int (x2 + (1 : Int32))), (0, .ref h0), (1, .int x1), (3, .int x3)]) hx hb dX2_ownedBy_29 rfl hl (by decide) rfl (fun ls hl => ?_)
          refine lv_iinc (v := (x3 + 1)) (lv' := [(3, .int (x3 + 1)), (2, .int (x2 + (1 : Int32))), (0, .ref h0), (1, .int x1)]) hx hb dX2_ownedBy_30 hl (k := 3) rfl (by first | rfl | decide) (by decide) rfl (fun ls hl => ?_)
          refine lv_goto (tgt := 4) hx hb dX2_ownedBy_33 (by decide) ?_
          exact ih _ _ _ h  _ _ _ hP hD hS (lv_sub hl [2, 3, 1, 0] rfl)
  unfold M_X2_ownedBy at h
  refine lv_iconst (v := 0) hx hb dX2_ownedBy_0 (by decide) ?_
  refine lv_istore_n (lv' := [(2, .int (0 : Int32)), (0, .ref h0), (1, .int p1)]) hx hb dX2_ownedBy_1 rfl hl (by decide) rfl (fun ls hl => ?_)
  refine lv_iconst (v := 0) hx hb dX2_ownedBy_2 (by decide) ?_
  refine lv_istore_n (lv' := [(3, .int (0 : Int32)), (2, .int (0 : Int32)), (0, .ref h0), (1, .int p1)]) hx hb dX2_ownedBy_3 rfl hl (by decide) rfl (fun ls hl => ?_)
  exact L4 FU _ _ _ h  _ _ _ hP hD hS (lv_sub hl [2, 3, 1, 0] rfl)
/-! X2_brokenBy -/
set_option maxHeartbeats 4000000 in
set_option maxRecDepth 100000 in
theorem c_X2_brokenBy (l : Launch) (D : va_G) (cI : ClassId) (h0 h1 h2 h3 h4 h5 h6 h7 : Nat) (v : SV) (p1 : Int32) (res : Int32) (h : M_X2_brokenBy v p1 = some res) : mI l yX2_brokenBy wsX2_brokenBy { frames := 0, cells := 0, slots := 0, locals := 0 } D cI [.ref h0, .int p1] (cS h0 h1 h2 h3 h4 h5 h6 h7 cI v) (cS h0 h1 h2 h3 h4 h5 h6 h7 cI v) res := by
  intro sz
  refine mStart (cc := cX2_brokenBy) (maxL := 4) (ret := (some .int)) (own := RX2) (by decide) rfl rfl (Nat.le_of_ble_eq_true rfl) (lv := [(0, .ref h0), (1, .int p1)]) rfl ?_
  intro p e s m args below meth c A ls Q H locs CF hr hlocks hK hP hD hS hA hAe hl hQ
  obtain ⟨hx, hb, hml, hown, hts⟩ := id CF
  have f30 := hts (.fieldLink RX2 30 "MendAnothersBreaking$State" "breakers" "[I") (List.mem_of_getElem? (i := 2) rfl)
  have f37 := hts (.fieldLink RX2 37 "MendAnothersBreaking$State" "things" "I") (List.mem_of_getElem? (i := 1) rfl)
  have i2 : ∀ w ∈ wsX20, w ∈ wsX2_brokenBy := fun w h => List.mem_cons_of_mem _ (List.mem_append_right _ h)
  have L4 : ∀ (n : Nat) (x1 : Int32) (x2 : Int32) (x3 : Int32), fuel (fun _ _ => none) (B_X2_brokenBy_4 x1 v) n x2 x3 = some res → 
      ∀ (H : Heap) (locs : List Loc) (ls : Array Slot), va_P D vwCl (cS h0 h1 h2 h3 h4 h5 h6 h7 cI v) H → va_D A (cS h0 h1 h2 h3 h4 h5 h6 h7 cI v) → va_S A s.heap H locs → lv_has ls 4 [(0, .ref h0), (1, .int x1), (2, .int x2), (3, .int x3)] → W p l e { frames := 0, cells := 0, slots := 0, locals := 0 } s m args below meth c H locs 0 0 Q (F0 m 4 ls []) := by
    intro n
    induction n with
    | zero =>
      intro x1 x2 x3 h
      exact nomatch (show (none : Option (Int32)) = some res from h)
    | succ n ih =>
      intro x1 x2 x3 h  H locs ls hP hD hS hl
      replace h : B_X2_brokenBy_4 x1 v (fuel (fun _ _ => none) (B_X2_brokenBy_4 x1 v) n) x2 x3 = some res := h
      unfold B_X2_brokenBy_4 at h
      refine lv_iload_n hx hb dX2_brokenBy_4 rfl (lv_at hl 3 rfl) ?_
      refine lv_aload_n hx hb dX2_brokenBy_5 rfl (lv_at hl 0 rfl) ?_
      refine va_get (D := D) (ci := 2) (v := .int (sTh v)) (C := RX2) (T := TX2) (N := 10) hx hb hts i2 hown hK hP 0 rfl rfl 8 (by decide) f37 (fun _ h9 => h9) rfl dX2_brokenBy_6 ?_
      refine lv_icmp_ge (tgt := 36) hx hb dX2_brokenBy_9 (by decide) (fun c9 => ?_) (fun c9 => ?_)
      · replace h := fx_ite_t c9 h
        refine lv_iload_n hx hb dX2_brokenBy_36 rfl (lv_at hl 2 rfl) ?_
        obtain rfl := ret1 h
        exact rI hQ hx hb hr hlocks hAe hP hS rfl rfl dX2_brokenBy_37
      · replace h := fx_ite_f c9 h
        refine lv_iload_n hx hb dX2_brokenBy_12 rfl (lv_at hl 2 rfl) ?_
        refine lv_aload_n hx hb dX2_brokenBy_13 rfl (lv_at hl 0 rfl) ?_
        refine va_get (D := D) (ci := 2) (v := .ref h7) (C := RX2) (T := TX2) (N := 10) hx hb hts i2 hown hK hP 0 rfl rfl 6 (by decide) f30 (fun _ h9 => h9) rfl dX2_brokenBy_14 ?_
        refine lv_iload_n hx hb dX2_brokenBy_17 rfl (lv_at hl 3 rfl) ?_
        obtain ⟨g18, h⟩ := chk_inv h
        refine va_iald (n := 9) (f := (sBr v)) hx hb hK hP 7 0 rfl rfl g18 dX2_brokenBy_18 ?_
        refine lv_iload_n hx hb dX2_brokenBy_19 rfl (lv_at hl 1 rfl) ?_
        refine lv_icmp_ne (tgt := 27) hx hb dX2_brokenBy_20 (by decide) (fun c20 => ?_) (fun c20 => ?_)
        · replace h := fx_ite_f c20 h
          refine lv_iconst (v := 0) hx hb dX2_brokenBy_27 (by decide) ?_
          refine lv_iadd hx hb dX2_brokenBy_28 ?_
          refine lv_istore_n (lv' := [(2, .int (x2 + (0 : Int32))), (0, .ref h0), (1, .int x1), (3, .int x3)]) hx hb dX2_brokenBy_29 rfl hl (by decide) rfl (fun ls hl => ?_)
          refine lv_iinc (v := (x3 + 1)) (lv' := [(3, .int (x3 + 1)), (2, .int (x2 + (0 : Int32))), (0, .ref h0), (1, .int x1)]) hx hb dX2_brokenBy_30 hl (k := 3) rfl (by first | rfl | decide) (by decide) rfl (fun ls hl => ?_)
          refine lv_goto (tgt := 4) hx hb dX2_brokenBy_33 (by decide) ?_
          exact ih _ _ _ h  _ _ _ hP hD hS (lv_sub hl [2, 3, 1, 0] rfl)
        · replace h := fx_ite_t c20 h
          refine lv_iconst (v := 1) hx hb dX2_brokenBy_23 (by decide) ?_
          refine lv_goto (tgt := 28) hx hb dX2_brokenBy_24 (by decide) ?_
          refine lv_iadd hx hb dX2_brokenBy_28 ?_
          refine lv_istore_n (lv' := [(2, .int (x2 + (1 : Int32))), (0, .ref h0), (1, .int x1), (3, .int x3)]) hx hb dX2_brokenBy_29 rfl hl (by decide) rfl (fun ls hl => ?_)
          refine lv_iinc (v := (x3 + 1)) (lv' := [(3, .int (x3 + 1)), (2, .int (x2 + (1 : Int32))), (0, .ref h0), (1, .int x1)]) hx hb dX2_brokenBy_30 hl (k := 3) rfl (by first | rfl | decide) (by decide) rfl (fun ls hl => ?_)
          refine lv_goto (tgt := 4) hx hb dX2_brokenBy_33 (by decide) ?_
          exact ih _ _ _ h  _ _ _ hP hD hS (lv_sub hl [2, 3, 1, 0] rfl)
  unfold M_X2_brokenBy at h
  refine lv_iconst (v := 0) hx hb dX2_brokenBy_0 (by decide) ?_
  refine lv_istore_n (lv' := [(2, .int (0 : Int32)), (0, .ref h0), (1, .int p1)]) hx hb dX2_brokenBy_1 rfl hl (by decide) rfl (fun ls hl => ?_)
  refine lv_iconst (v := 0) hx hb dX2_brokenBy_2 (by decide) ?_
  refine lv_istore_n (lv' := [(3, .int (0 : Int32)), (2, .int (0 : Int32)), (0, .ref h0), (1, .int p1)]) hx hb dX2_brokenBy_3 rfl hl (by decide) rfl (fun ls hl => ?_)
  exact L4 FU _ _ _ h  _ _ _ hP hD hS (lv_sub hl [2, 3, 1, 0] rfl)
/-! X2_wholeOf -/
set_option maxHeartbeats 4000000 in
set_option maxRecDepth 100000 in
theorem c_X2_wholeOf (l : Launch) (D : va_G) (cI : ClassId) (h0 h1 h2 h3 h4 h5 h6 h7 : Nat) (v : SV) (p1 : Int32) (res : Int32) (h : M_X2_wholeOf v p1 = some res) : mI l yX2_wholeOf wsX2_wholeOf { frames := 1, cells := 0, slots := 0, locals := 21 } D cI [.ref h0, .int p1] (cS h0 h1 h2 h3 h4 h5 h6 h7 cI v) (cS h0 h1 h2 h3 h4 h5 h6 h7 cI v) res := by
  intro sz
  refine mStart (cc := cX2_wholeOf) (maxL := 4) (ret := (some .int)) (own := RX2) (by decide) rfl rfl (Nat.le_of_ble_eq_true rfl) (lv := [(0, .ref h0), (1, .int p1)]) rfl ?_
  intro p e s m args below meth c A ls Q H locs CF hr hlocks hK hP hD hS hA hAe hl hQ
  obtain ⟨hx, hb, hml, hown, hts⟩ := id CF
  have f24 := hts (.fieldLink RX2 24 "MendAnothersBreaking$State" "owners" "[I") (List.mem_of_getElem? (i := 2) rfl)
  have f37 := hts (.fieldLink RX2 37 "MendAnothersBreaking$State" "things" "I") (List.mem_of_getElem? (i := 1) rfl)
  have i2 : ∀ w ∈ wsX20, w ∈ wsX2_wholeOf := fun w h => List.mem_cons_of_mem _ (List.mem_append_right _ h)
  have L4 : ∀ (n : Nat) (x1 : Int32) (x2 : Int32) (x3 : Int32), fuel (fun _ _ => none) (B_X2_wholeOf_4 x1 v) n x2 x3 = some res → 
      ∀ (H : Heap) (locs : List Loc) (ls : Array Slot), va_P D vwCl (cS h0 h1 h2 h3 h4 h5 h6 h7 cI v) H → va_D A (cS h0 h1 h2 h3 h4 h5 h6 h7 cI v) → va_S A s.heap H locs → lv_has ls 4 [(0, .ref h0), (1, .int x1), (2, .int x2), (3, .int x3)] → W p l e { frames := 1, cells := 0, slots := 0, locals := 21 } s m args below meth c H locs 0 0 Q (F0 m 4 ls []) := by
    intro n
    induction n with
    | zero =>
      intro x1 x2 x3 h
      exact nomatch (show (none : Option (Int32)) = some res from h)
    | succ n ih =>
      intro x1 x2 x3 h  H locs ls hP hD hS hl
      replace h : B_X2_wholeOf_4 x1 v (fuel (fun _ _ => none) (B_X2_wholeOf_4 x1 v) n) x2 x3 = some res := h
      unfold B_X2_wholeOf_4 at h
      refine lv_iload_n hx hb dX2_wholeOf_4 rfl (lv_at hl 3 rfl) ?_
      refine lv_aload_n hx hb dX2_wholeOf_5 rfl (lv_at hl 0 rfl) ?_
      refine va_get (D := D) (ci := 2) (v := .int (sTh v)) (C := RX2) (T := TX2) (N := 10) hx hb hts i2 hown hK hP 0 rfl rfl 8 (by decide) f37 (fun _ h9 => h9) rfl dX2_wholeOf_6 ?_
      refine lv_icmp_ge (tgt := 44) hx hb dX2_wholeOf_9 (by decide) (fun c9 => ?_) (fun c9 => ?_)
      · replace h := fx_ite_t c9 h
        refine lv_iload_n hx hb dX2_wholeOf_44 rfl (lv_at hl 2 rfl) ?_
        obtain rfl := ret1 h
        exact rI hQ hx hb hr hlocks hAe hP hS rfl rfl dX2_wholeOf_45
      · replace h := fx_ite_f c9 h
        refine lv_iload_n hx hb dX2_wholeOf_12 rfl (lv_at hl 2 rfl) ?_
        refine lv_aload_n hx hb dX2_wholeOf_13 rfl (lv_at hl 0 rfl) ?_
        refine va_get (D := D) (ci := 2) (v := .ref h5) (C := RX2) (T := TX2) (N := 10) hx hb hts i2 hown hK hP 0 rfl rfl 4 (by decide) f24 (fun _ h9 => h9) rfl dX2_wholeOf_14 ?_
        refine lv_iload_n hx hb dX2_wholeOf_17 rfl (lv_at hl 3 rfl) ?_
        obtain ⟨g18, h⟩ := chk_inv h
        refine va_iald (n := 9) (f := (sOw v)) hx hb hK hP 5 0 rfl rfl g18 dX2_wholeOf_18 ?_
        refine lv_iload_n hx hb dX2_wholeOf_19 rfl (lv_at hl 1 rfl) ?_
        refine lv_icmp_ne (tgt := 35) hx hb dX2_wholeOf_20 (by decide) (fun c20 => ?_) (fun c20 => ?_)
        · replace h := fx_ite_f c20 h
          refine lv_iconst (v := 0) hx hb dX2_wholeOf_35 (by decide) ?_
          refine lv_iadd hx hb dX2_wholeOf_36 ?_
          refine lv_istore_n (lv' := [(2, .int (x2 + (0 : Int32))), (0, .ref h0), (1, .int x1), (3, .int x3)]) hx hb dX2_wholeOf_37 rfl hl (by decide) rfl (fun ls hl => ?_)
          refine lv_iinc (v := (x3 + 1)) (lv' := [(3, .int (x3 + 1)), (2, .int (x2 + (0 : Int32))), (0, .ref h0), (1, .int x1)]) hx hb dX2_wholeOf_38 hl (k := 3) rfl (by first | rfl | decide) (by decide) rfl (fun ls hl => ?_)
          refine lv_goto (tgt := 4) hx hb dX2_wholeOf_41 (by decide) ?_
          exact ih _ _ _ h  _ _ _ hP hD hS (lv_sub hl [2, 3, 1, 0] rfl)
        · replace h := fx_ite_t c20 h
          refine lv_aload_n hx hb dX2_wholeOf_23 rfl (lv_at hl 0 rfl) ?_
          refine lv_iload_n hx hb dX2_wholeOf_24 rfl (lv_at hl 3 rfl) ?_
          obtain ⟨r25, q25, h⟩ := bnd1_inv h
          refine kVI (n := 1) (As := [.int x3]) (rest := [.int x2]) CF hl hK hP hD hS hA (c_X2_isWhole l D cI h0 h1 h2 h3 h4 h5 h6 h7 v x3 r25 q25) gX2_wholeOf_X2_isWhole rfl dX2_wholeOf_25 (by decide +kernel) ⟨⟨rfl, rfl⟩, ⟨Nat.le_of_ble_eq_true rfl, Nat.le_of_ble_eq_true rfl⟩, Nat.zero_le _, Nat.zero_le _⟩ (JN.whole rfl) 0 rfl ⟨rfl, rfl⟩ rfl rfl (Nat.le_of_ble_eq_true rfl) (fun H locs hP hD hS => ?_)
          replace hP : va_P D vwCl (cS h0 h1 h2 h3 h4 h5 h6 h7 cI v) H := hP
          replace hD : va_D A (cS h0 h1 h2 h3 h4 h5 h6 h7 cI v) := hD
          refine lv_if_eq (tgt := 35) hx hb dX2_wholeOf_28 (by decide) (fun c28 => ?_) (fun c28 => ?_)
          · replace h := fx_ite_t c28 h
            refine lv_iconst (v := 0) hx hb dX2_wholeOf_35 (by decide) ?_
            refine lv_iadd hx hb dX2_wholeOf_36 ?_
            refine lv_istore_n (lv' := [(2, .int (x2 + (0 : Int32))), (0, .ref h0), (1, .int x1), (3, .int x3)]) hx hb dX2_wholeOf_37 rfl hl (by decide) rfl (fun ls hl => ?_)
            refine lv_iinc (v := (x3 + 1)) (lv' := [(3, .int (x3 + 1)), (2, .int (x2 + (0 : Int32))), (0, .ref h0), (1, .int x1)]) hx hb dX2_wholeOf_38 hl (k := 3) rfl (by first | rfl | decide) (by decide) rfl (fun ls hl => ?_)
            refine lv_goto (tgt := 4) hx hb dX2_wholeOf_41 (by decide) ?_
            exact ih _ _ _ h  _ _ _ hP hD hS (lv_sub hl [2, 3, 1, 0] rfl)
          · replace h := fx_ite_f c28 h
            refine lv_iconst (v := 1) hx hb dX2_wholeOf_31 (by decide) ?_
            refine lv_goto (tgt := 36) hx hb dX2_wholeOf_32 (by decide) ?_
            refine lv_iadd hx hb dX2_wholeOf_36 ?_
            refine lv_istore_n (lv' := [(2, .int (x2 + (1 : Int32))), (0, .ref h0), (1, .int x1), (3, .int x3)]) hx hb dX2_wholeOf_37 rfl hl (by decide) rfl (fun ls hl => ?_)
            refine lv_iinc (v := (x3 + 1)) (lv' := [(3, .int (x3 + 1)), (2, .int (x2 + (1 : Int32))), (0, .ref h0), (1, .int x1)]) hx hb dX2_wholeOf_38 hl (k := 3) rfl (by first | rfl | decide) (by decide) rfl (fun ls hl => ?_)
            refine lv_goto (tgt := 4) hx hb dX2_wholeOf_41 (by decide) ?_
            exact ih _ _ _ h  _ _ _ hP hD hS (lv_sub hl [2, 3, 1, 0] rfl)
  unfold M_X2_wholeOf at h
  refine lv_iconst (v := 0) hx hb dX2_wholeOf_0 (by decide) ?_
  refine lv_istore_n (lv' := [(2, .int (0 : Int32)), (0, .ref h0), (1, .int p1)]) hx hb dX2_wholeOf_1 rfl hl (by decide) rfl (fun ls hl => ?_)
  refine lv_iconst (v := 0) hx hb dX2_wholeOf_2 (by decide) ?_
  refine lv_istore_n (lv' := [(3, .int (0 : Int32)), (2, .int (0 : Int32)), (0, .ref h0), (1, .int p1)]) hx hb dX2_wholeOf_3 rfl hl (by decide) rfl (fun ls hl => ?_)
  exact L4 FU _ _ _ h  _ _ _ hP hD hS (lv_sub hl [2, 3, 1, 0] rfl)
/-! X2_riches -/
set_option maxHeartbeats 4000000 in
set_option maxRecDepth 100000 in
theorem c_X2_riches (l : Launch) (D : va_G) (cI : ClassId) (h0 h1 h2 h3 h4 h5 h6 h7 : Nat) (v : SV) (p1 : Int32) (res : Int32) (h : M_X2_riches v p1 = some res) : mI l yX2_riches wsX2_riches { frames := 1, cells := 0, slots := 0, locals := 21 } D cI [.ref h0, .int p1] (cS h0 h1 h2 h3 h4 h5 h6 h7 cI v) (cS h0 h1 h2 h3 h4 h5 h6 h7 cI v) res := by
  intro sz
  refine mStart (cc := cX2_riches) (maxL := 4) (ret := (some .int)) (own := RX2) (by decide) rfl rfl (Nat.le_of_ble_eq_true rfl) (lv := [(0, .ref h0), (1, .int p1)]) rfl ?_
  intro p e s m args below meth c A ls Q H locs CF hr hlocks hK hP hD hS hA hAe hl hQ
  obtain ⟨hx, hb, hml, hown, hts⟩ := id CF
  have f21 := hts (.fieldLink RX2 21 "MendAnothersBreaking$State" "figures" "[I") (List.mem_of_getElem? (i := 3) rfl)
  have f24 := hts (.fieldLink RX2 24 "MendAnothersBreaking$State" "owners" "[I") (List.mem_of_getElem? (i := 2) rfl)
  have f37 := hts (.fieldLink RX2 37 "MendAnothersBreaking$State" "things" "I") (List.mem_of_getElem? (i := 1) rfl)
  have i2 : ∀ w ∈ wsX20, w ∈ wsX2_riches := fun w h => List.mem_cons_of_mem _ (List.mem_append_right _ h)
  have L4 : ∀ (n : Nat) (x1 : Int32) (x2 : Int32) (x3 : Int32), fuel (fun _ _ => none) (B_X2_riches_4 x1 v) n x2 x3 = some res → 
      ∀ (H : Heap) (locs : List Loc) (ls : Array Slot), va_P D vwCl (cS h0 h1 h2 h3 h4 h5 h6 h7 cI v) H → va_D A (cS h0 h1 h2 h3 h4 h5 h6 h7 cI v) → va_S A s.heap H locs → lv_has ls 4 [(0, .ref h0), (1, .int x1), (2, .int x2), (3, .int x3)] → W p l e { frames := 1, cells := 0, slots := 0, locals := 21 } s m args below meth c H locs 0 0 Q (F0 m 4 ls []) := by
    intro n
    induction n with
    | zero =>
      intro x1 x2 x3 h
      exact nomatch (show (none : Option (Int32)) = some res from h)
    | succ n ih =>
      intro x1 x2 x3 h  H locs ls hP hD hS hl
      replace h : B_X2_riches_4 x1 v (fuel (fun _ _ => none) (B_X2_riches_4 x1 v) n) x2 x3 = some res := h
      unfold B_X2_riches_4 at h
      refine lv_iload_n hx hb dX2_riches_4 rfl (lv_at hl 3 rfl) ?_
      refine lv_aload_n hx hb dX2_riches_5 rfl (lv_at hl 0 rfl) ?_
      refine va_get (D := D) (ci := 2) (v := .int (sTh v)) (C := RX2) (T := TX2) (N := 10) hx hb hts i2 hown hK hP 0 rfl rfl 8 (by decide) f37 (fun _ h9 => h9) rfl dX2_riches_6 ?_
      refine lv_icmp_ge (tgt := 49) hx hb dX2_riches_9 (by decide) (fun c9 => ?_) (fun c9 => ?_)
      · replace h := fx_ite_t c9 h
        refine lv_iload_n hx hb dX2_riches_49 rfl (lv_at hl 2 rfl) ?_
        obtain rfl := ret1 h
        exact rI hQ hx hb hr hlocks hAe hP hS rfl rfl dX2_riches_50
      · replace h := fx_ite_f c9 h
        refine lv_iload_n hx hb dX2_riches_12 rfl (lv_at hl 2 rfl) ?_
        refine lv_aload_n hx hb dX2_riches_13 rfl (lv_at hl 0 rfl) ?_
        refine va_get (D := D) (ci := 2) (v := .ref h5) (C := RX2) (T := TX2) (N := 10) hx hb hts i2 hown hK hP 0 rfl rfl 4 (by decide) f24 (fun _ h9 => h9) rfl dX2_riches_14 ?_
        refine lv_iload_n hx hb dX2_riches_17 rfl (lv_at hl 3 rfl) ?_
        obtain ⟨g18, h⟩ := chk_inv h
        refine va_iald (n := 9) (f := (sOw v)) hx hb hK hP 5 0 rfl rfl g18 dX2_riches_18 ?_
        refine lv_iload_n hx hb dX2_riches_19 rfl (lv_at hl 1 rfl) ?_
        refine lv_icmp_ne (tgt := 40) hx hb dX2_riches_20 (by decide) (fun c20 => ?_) (fun c20 => ?_)
        · replace h := fx_ite_f c20 h
          refine lv_iconst (v := 0) hx hb dX2_riches_40 (by decide) ?_
          refine lv_iadd hx hb dX2_riches_41 ?_
          refine lv_istore_n (lv' := [(2, .int (x2 + (0 : Int32))), (0, .ref h0), (1, .int x1), (3, .int x3)]) hx hb dX2_riches_42 rfl hl (by decide) rfl (fun ls hl => ?_)
          refine lv_iinc (v := (x3 + 1)) (lv' := [(3, .int (x3 + 1)), (2, .int (x2 + (0 : Int32))), (0, .ref h0), (1, .int x1)]) hx hb dX2_riches_43 hl (k := 3) rfl (by first | rfl | decide) (by decide) rfl (fun ls hl => ?_)
          refine lv_goto (tgt := 4) hx hb dX2_riches_46 (by decide) ?_
          exact ih _ _ _ h  _ _ _ hP hD hS (lv_sub hl [2, 3, 1, 0] rfl)
        · replace h := fx_ite_t c20 h
          refine lv_aload_n hx hb dX2_riches_23 rfl (lv_at hl 0 rfl) ?_
          refine lv_iload_n hx hb dX2_riches_24 rfl (lv_at hl 3 rfl) ?_
          obtain ⟨r25, q25, h⟩ := bnd1_inv h
          refine kVI (n := 1) (As := [.int x3]) (rest := [.int x2]) CF hl hK hP hD hS hA (c_X2_isWhole l D cI h0 h1 h2 h3 h4 h5 h6 h7 v x3 r25 q25) gX2_riches_X2_isWhole rfl dX2_riches_25 (by decide +kernel) ⟨⟨rfl, rfl⟩, ⟨Nat.le_of_ble_eq_true rfl, Nat.le_of_ble_eq_true rfl⟩, Nat.zero_le _, Nat.zero_le _⟩ (JN.whole rfl) 0 rfl ⟨rfl, rfl⟩ rfl rfl (Nat.le_of_ble_eq_true rfl) (fun H locs hP hD hS => ?_)
          replace hP : va_P D vwCl (cS h0 h1 h2 h3 h4 h5 h6 h7 cI v) H := hP
          replace hD : va_D A (cS h0 h1 h2 h3 h4 h5 h6 h7 cI v) := hD
          refine lv_if_eq (tgt := 40) hx hb dX2_riches_28 (by decide) (fun c28 => ?_) (fun c28 => ?_)
          · replace h := fx_ite_t c28 h
            refine lv_iconst (v := 0) hx hb dX2_riches_40 (by decide) ?_
            refine lv_iadd hx hb dX2_riches_41 ?_
            refine lv_istore_n (lv' := [(2, .int (x2 + (0 : Int32))), (0, .ref h0), (1, .int x1), (3, .int x3)]) hx hb dX2_riches_42 rfl hl (by decide) rfl (fun ls hl => ?_)
            refine lv_iinc (v := (x3 + 1)) (lv' := [(3, .int (x3 + 1)), (2, .int (x2 + (0 : Int32))), (0, .ref h0), (1, .int x1)]) hx hb dX2_riches_43 hl (k := 3) rfl (by first | rfl | decide) (by decide) rfl (fun ls hl => ?_)
            refine lv_goto (tgt := 4) hx hb dX2_riches_46 (by decide) ?_
            exact ih _ _ _ h  _ _ _ hP hD hS (lv_sub hl [2, 3, 1, 0] rfl)
          · replace h := fx_ite_f c28 h
            refine lv_aload_n hx hb dX2_riches_31 rfl (lv_at hl 0 rfl) ?_
            refine va_get (D := D) (ci := 2) (v := .ref h4) (C := RX2) (T := TX2) (N := 10) hx hb hts i2 hown hK hP 0 rfl rfl 3 (by decide) f21 (fun _ h9 => h9) rfl dX2_riches_32 ?_
            refine lv_iload_n hx hb dX2_riches_35 rfl (lv_at hl 3 rfl) ?_
            obtain ⟨g36, h⟩ := chk_inv h
            refine va_iald (n := 9) (f := (sFi v)) hx hb hK hP 4 0 rfl rfl g36 dX2_riches_36 ?_
            refine lv_goto (tgt := 41) hx hb dX2_riches_37 (by decide) ?_
            refine lv_iadd hx hb dX2_riches_41 ?_
            refine lv_istore_n (lv' := [(2, .int (x2 + ((sFi v) (Int32.toNatClampNeg x3)))), (0, .ref h0), (1, .int x1), (3, .int x3)]) hx hb dX2_riches_42 rfl hl (by decide) rfl (fun ls hl => ?_)
            refine lv_iinc (v := (x3 + 1)) (lv' := [(3, .int (x3 + 1)), (2, .int (x2 + ((sFi v) (Int32.toNatClampNeg x3)))), (0, .ref h0), (1, .int x1)]) hx hb dX2_riches_43 hl (k := 3) rfl (by first | rfl | decide) (by decide) rfl (fun ls hl => ?_)
            refine lv_goto (tgt := 4) hx hb dX2_riches_46 (by decide) ?_
            exact ih _ _ _ h  _ _ _ hP hD hS (lv_sub hl [2, 3, 1, 0] rfl)
  unfold M_X2_riches at h
  refine lv_iconst (v := 0) hx hb dX2_riches_0 (by decide) ?_
  refine lv_istore_n (lv' := [(2, .int (0 : Int32)), (0, .ref h0), (1, .int p1)]) hx hb dX2_riches_1 rfl hl (by decide) rfl (fun ls hl => ?_)
  refine lv_iconst (v := 0) hx hb dX2_riches_2 (by decide) ?_
  refine lv_istore_n (lv' := [(3, .int (0 : Int32)), (2, .int (0 : Int32)), (0, .ref h0), (1, .int p1)]) hx hb dX2_riches_3 rfl hl (by decide) rfl (fun ls hl => ?_)
  exact L4 FU _ _ _ h  _ _ _ hP hD hS (lv_sub hl [2, 3, 1, 0] rfl)
/-! X2_wholeBits -/
set_option maxHeartbeats 4000000 in
set_option maxRecDepth 100000 in
theorem c_X2_wholeBits (l : Launch) (D : va_G) (cI : ClassId) (h0 h1 h2 h3 h4 h5 h6 h7 : Nat) (v : SV)  (res : Int32) (h : M_X2_wholeBits v = some res) : mI l yX2_wholeBits wsX2_wholeBits { frames := 1, cells := 0, slots := 0, locals := 21 } D cI [.ref h0] (cS h0 h1 h2 h3 h4 h5 h6 h7 cI v) (cS h0 h1 h2 h3 h4 h5 h6 h7 cI v) res := by
  intro sz
  refine mStart (cc := cX2_wholeBits) (maxL := 3) (ret := (some .int)) (own := RX2) (by decide) rfl rfl (Nat.le_of_ble_eq_true rfl) (lv := [(0, .ref h0)]) rfl ?_
  intro p e s m args below meth c A ls Q H locs CF hr hlocks hK hP hD hS hA hAe hl hQ
  obtain ⟨hx, hb, hml, hown, hts⟩ := id CF
  have f37 := hts (.fieldLink RX2 37 "MendAnothersBreaking$State" "things" "I") (List.mem_of_getElem? (i := 1) rfl)
  have i2 : ∀ w ∈ wsX20, w ∈ wsX2_wholeBits := fun w h => List.mem_cons_of_mem _ (List.mem_append_right _ h)
  have L4 : ∀ (n : Nat)  (x1 : Int32) (x2 : Int32), fuel (fun _ _ => none) (B_X2_wholeBits_4 v) n x1 x2 = some res → 
      ∀ (H : Heap) (locs : List Loc) (ls : Array Slot), va_P D vwCl (cS h0 h1 h2 h3 h4 h5 h6 h7 cI v) H → va_D A (cS h0 h1 h2 h3 h4 h5 h6 h7 cI v) → va_S A s.heap H locs → lv_has ls 3 [(0, .ref h0), (1, .int x1), (2, .int x2)] → W p l e { frames := 1, cells := 0, slots := 0, locals := 21 } s m args below meth c H locs 0 0 Q (F0 m 4 ls []) := by
    intro n
    induction n with
    | zero =>
      intro x1 x2 h
      exact nomatch (show (none : Option (Int32)) = some res from h)
    | succ n ih =>
      intro x1 x2 h  H locs ls hP hD hS hl
      replace h : B_X2_wholeBits_4 v (fuel (fun _ _ => none) (B_X2_wholeBits_4 v) n) x1 x2 = some res := h
      unfold B_X2_wholeBits_4 at h
      refine lv_iload_n hx hb dX2_wholeBits_4 rfl (lv_at hl 2 rfl) ?_
      refine lv_aload_n hx hb dX2_wholeBits_5 rfl (lv_at hl 0 rfl) ?_
      refine va_get (D := D) (ci := 2) (v := .int (sTh v)) (C := RX2) (T := TX2) (N := 10) hx hb hts i2 hown hK hP 0 rfl rfl 8 (by decide) f37 (fun _ h9 => h9) rfl dX2_wholeBits_6 ?_
      refine lv_icmp_ge (tgt := 36) hx hb dX2_wholeBits_9 (by decide) (fun c9 => ?_) (fun c9 => ?_)
      · replace h := fx_ite_t c9 h
        refine lv_iload_n hx hb dX2_wholeBits_36 rfl (lv_at hl 1 rfl) ?_
        obtain rfl := ret1 h
        exact rI hQ hx hb hr hlocks hAe hP hS rfl rfl dX2_wholeBits_37
      · replace h := fx_ite_f c9 h
        refine lv_iload_n hx hb dX2_wholeBits_12 rfl (lv_at hl 1 rfl) ?_
        refine lv_aload_n hx hb dX2_wholeBits_13 rfl (lv_at hl 0 rfl) ?_
        refine lv_iload_n hx hb dX2_wholeBits_14 rfl (lv_at hl 2 rfl) ?_
        obtain ⟨r15, q15, h⟩ := bnd1_inv h
        refine kVI (n := 1) (As := [.int x2]) (rest := [.int x1]) CF hl hK hP hD hS hA (c_X2_isWhole l D cI h0 h1 h2 h3 h4 h5 h6 h7 v x2 r15 q15) gX2_wholeBits_X2_isWhole rfl dX2_wholeBits_15 (by decide +kernel) ⟨⟨rfl, rfl⟩, ⟨Nat.le_of_ble_eq_true rfl, Nat.le_of_ble_eq_true rfl⟩, Nat.zero_le _, Nat.zero_le _⟩ (JN.whole rfl) 0 rfl ⟨rfl, rfl⟩ rfl rfl (Nat.le_of_ble_eq_true rfl) (fun H locs hP hD hS => ?_)
        replace hP : va_P D vwCl (cS h0 h1 h2 h3 h4 h5 h6 h7 cI v) H := hP
        replace hD : va_D A (cS h0 h1 h2 h3 h4 h5 h6 h7 cI v) := hD
        refine lv_if_eq (tgt := 27) hx hb dX2_wholeBits_18 (by decide) (fun c18 => ?_) (fun c18 => ?_)
        · replace h := fx_ite_t c18 h
          refine lv_iconst (v := 0) hx hb dX2_wholeBits_27 (by decide) ?_
          refine lv_ior hx hb dX2_wholeBits_28 ?_
          refine lv_istore_n (lv' := [(1, .int (x1 ||| (0 : Int32))), (0, .ref h0), (2, .int x2)]) hx hb dX2_wholeBits_29 rfl hl (by decide) rfl (fun ls hl => ?_)
          refine lv_iinc (v := (x2 + 1)) (lv' := [(2, .int (x2 + 1)), (1, .int (x1 ||| (0 : Int32))), (0, .ref h0)]) hx hb dX2_wholeBits_30 hl (k := 2) rfl (by first | rfl | decide) (by decide) rfl (fun ls hl => ?_)
          refine lv_goto (tgt := 4) hx hb dX2_wholeBits_33 (by decide) ?_
          exact ih _ _ h  _ _ _ hP hD hS (lv_sub hl [2, 1, 0] rfl)
        · replace h := fx_ite_f c18 h
          refine lv_iconst (v := 1) hx hb dX2_wholeBits_21 (by decide) ?_
          refine lv_iload_n hx hb dX2_wholeBits_22 rfl (lv_at hl 2 rfl) ?_
          refine lv_ishl hx hb dX2_wholeBits_23 ?_
          refine lv_goto (tgt := 28) hx hb dX2_wholeBits_24 (by decide) ?_
          refine lv_ior hx hb dX2_wholeBits_28 ?_
          refine lv_istore_n (lv' := [(1, .int (x1 ||| ((1 : Int32) <<< (x2 &&& 31)))), (0, .ref h0), (2, .int x2)]) hx hb dX2_wholeBits_29 rfl hl (by decide) rfl (fun ls hl => ?_)
          refine lv_iinc (v := (x2 + 1)) (lv' := [(2, .int (x2 + 1)), (1, .int (x1 ||| ((1 : Int32) <<< (x2 &&& 31)))), (0, .ref h0)]) hx hb dX2_wholeBits_30 hl (k := 2) rfl (by first | rfl | decide) (by decide) rfl (fun ls hl => ?_)
          refine lv_goto (tgt := 4) hx hb dX2_wholeBits_33 (by decide) ?_
          exact ih _ _ h  _ _ _ hP hD hS (lv_sub hl [2, 1, 0] rfl)
  unfold M_X2_wholeBits at h
  refine lv_iconst (v := 0) hx hb dX2_wholeBits_0 (by decide) ?_
  refine lv_istore_n (lv' := [(1, .int (0 : Int32)), (0, .ref h0)]) hx hb dX2_wholeBits_1 rfl hl (by decide) rfl (fun ls hl => ?_)
  refine lv_iconst (v := 0) hx hb dX2_wholeBits_2 (by decide) ?_
  refine lv_istore_n (lv' := [(2, .int (0 : Int32)), (1, .int (0 : Int32)), (0, .ref h0)]) hx hb dX2_wholeBits_3 rfl hl (by decide) rfl (fun ls hl => ?_)
  exact L4 FU _ _ h  _ _ _ hP hD hS (lv_sub hl [2, 1, 0] rfl)
/-! J6_bitCount_0f7a4 -/
set_option maxHeartbeats 4000000 in
set_option maxRecDepth 100000 in
theorem c_J6_bitCount_0f7a4 (l : Launch) (D : va_G) (cI : ClassId)   (p0 : Int32) (res : Int32) (h : M_J6_bitCount_0f7a4 p0 = some res) : mI l yJ6_bitCount_0f7a4 wsJ6_bitCount_0f7a4 { frames := 0, cells := 0, slots := 0, locals := 0 } D cI [.int p0] [] [] res := by
  intro sz
  refine mStart (cc := cJ6_bitCount_0f7a4) (maxL := 1) (ret := (some .int)) (own := RJ6) (by decide) rfl rfl (Nat.le_of_ble_eq_true rfl) (lv := [(0, .int p0)]) rfl ?_
  intro p e s m args below meth c A ls Q H locs CF hr hlocks hK hP hD hS hA hAe hl hQ
  obtain ⟨hx, hb, hml, hown, hts⟩ := id CF
  have k265 := hts (.constant RJ6 265 (1431655765)) (List.mem_of_getElem? (i := 1) rfl)
  have k266 := hts (.constant RJ6 266 (858993459)) (List.mem_of_getElem? (i := 2) rfl)
  have k267 := hts (.constant RJ6 267 (252645135)) (List.mem_of_getElem? (i := 3) rfl)
  unfold M_J6_bitCount_0f7a4 at h
  refine lv_iload_n hx hb dJ6_bitCount_0f7a4_0 rfl (lv_at hl 0 rfl) ?_
  refine lv_iload_n hx hb dJ6_bitCount_0f7a4_1 rfl (lv_at hl 0 rfl) ?_
  refine lv_iconst (v := 1) hx hb dJ6_bitCount_0f7a4_2 (by decide) ?_
  refine lv_iushr hx hb dJ6_bitCount_0f7a4_3 rfl ?_
  refine lv_ldcw (v := 1431655765) hx hb hown k265 dJ6_bitCount_0f7a4_4 ?_
  refine lv_iand hx hb dJ6_bitCount_0f7a4_7 ?_
  refine lv_isub hx hb dJ6_bitCount_0f7a4_8 ?_
  refine lv_istore_n (lv' := [(0, .int (p0 - (((Int32.toUInt32 p0 >>> (Int32.toUInt32 (1 : Int32) &&& Int32.toUInt32 31)).toInt32) &&& (1431655765 : Int32))))]) hx hb dJ6_bitCount_0f7a4_9 rfl hl (by decide) rfl (fun ls hl => ?_)
  refine lv_iload_n hx hb dJ6_bitCount_0f7a4_10 rfl (lv_at hl 0 rfl) ?_
  refine lv_ldcw (v := 858993459) hx hb hown k266 dJ6_bitCount_0f7a4_11 ?_
  refine lv_iand hx hb dJ6_bitCount_0f7a4_14 ?_
  refine lv_iload_n hx hb dJ6_bitCount_0f7a4_15 rfl (lv_at hl 0 rfl) ?_
  refine lv_iconst (v := 2) hx hb dJ6_bitCount_0f7a4_16 (by decide) ?_
  refine lv_iushr hx hb dJ6_bitCount_0f7a4_17 rfl ?_
  refine lv_ldcw (v := 858993459) hx hb hown k266 dJ6_bitCount_0f7a4_18 ?_
  refine lv_iand hx hb dJ6_bitCount_0f7a4_21 ?_
  refine lv_iadd hx hb dJ6_bitCount_0f7a4_22 ?_
  refine lv_istore_n (lv' := [(0, .int (((p0 - (((Int32.toUInt32 p0 >>> (Int32.toUInt32 (1 : Int32) &&& Int32.toUInt32 31)).toInt32) &&& (1431655765 : Int32))) &&& (858993459 : Int32)) + (((Int32.toUInt32 (p0 - (((Int32.toUInt32 p0 >>> (Int32.toUInt32 (1 : Int32) &&& Int32.toUInt32 31)).toInt32) &&& (1431655765 : Int32))) >>> (Int32.toUInt32 (2 : Int32) &&& Int32.toUInt32 31)).toInt32) &&& (858993459 : Int32))))]) hx hb dJ6_bitCount_0f7a4_23 rfl hl (by decide) rfl (fun ls hl => ?_)
  refine lv_iload_n hx hb dJ6_bitCount_0f7a4_24 rfl (lv_at hl 0 rfl) ?_
  refine lv_iload_n hx hb dJ6_bitCount_0f7a4_25 rfl (lv_at hl 0 rfl) ?_
  refine lv_iconst (v := 4) hx hb dJ6_bitCount_0f7a4_26 (by decide) ?_
  refine lv_iushr hx hb dJ6_bitCount_0f7a4_27 rfl ?_
  refine lv_iadd hx hb dJ6_bitCount_0f7a4_28 ?_
  refine lv_ldcw (v := 252645135) hx hb hown k267 dJ6_bitCount_0f7a4_29 ?_
  refine lv_iand hx hb dJ6_bitCount_0f7a4_32 ?_
  refine lv_istore_n (lv' := [(0, .int (((((p0 - (((Int32.toUInt32 p0 >>> (Int32.toUInt32 (1 : Int32) &&& Int32.toUInt32 31)).toInt32) &&& (1431655765 : Int32))) &&& (858993459 : Int32)) + (((Int32.toUInt32 (p0 - (((Int32.toUInt32 p0 >>> (Int32.toUInt32 (1 : Int32) &&& Int32.toUInt32 31)).toInt32) &&& (1431655765 : Int32))) >>> (Int32.toUInt32 (2 : Int32) &&& Int32.toUInt32 31)).toInt32) &&& (858993459 : Int32))) + ((Int32.toUInt32 (((p0 - (((Int32.toUInt32 p0 >>> (Int32.toUInt32 (1 : Int32) &&& Int32.toUInt32 31)).toInt32) &&& (1431655765 : Int32))) &&& (858993459 : Int32)) + (((Int32.toUInt32 (p0 - (((Int32.toUInt32 p0 >>> (Int32.toUInt32 (1 : Int32) &&& Int32.toUInt32 31)).toInt32) &&& (1431655765 : Int32))) >>> (Int32.toUInt32 (2 : Int32) &&& Int32.toUInt32 31)).toInt32) &&& (858993459 : Int32))) >>> (Int32.toUInt32 (4 : Int32) &&& Int32.toUInt32 31)).toInt32)) &&& (252645135 : Int32)))]) hx hb dJ6_bitCount_0f7a4_33 rfl hl (by decide) rfl (fun ls hl => ?_)
  refine lv_iload_n hx hb dJ6_bitCount_0f7a4_34 rfl (lv_at hl 0 rfl) ?_
  refine lv_iload_n hx hb dJ6_bitCount_0f7a4_35 rfl (lv_at hl 0 rfl) ?_
  refine lv_bipush (v := 8) hx hb dJ6_bitCount_0f7a4_36 (by decide) ?_
  refine lv_iushr hx hb dJ6_bitCount_0f7a4_38 rfl ?_
  refine lv_iadd hx hb dJ6_bitCount_0f7a4_39 ?_
  refine lv_istore_n (lv' := [(0, .int ((((((p0 - (((Int32.toUInt32 p0 >>> (Int32.toUInt32 (1 : Int32) &&& Int32.toUInt32 31)).toInt32) &&& (1431655765 : Int32))) &&& (858993459 : Int32)) + (((Int32.toUInt32 (p0 - (((Int32.toUInt32 p0 >>> (Int32.toUInt32 (1 : Int32) &&& Int32.toUInt32 31)).toInt32) &&& (1431655765 : Int32))) >>> (Int32.toUInt32 (2 : Int32) &&& Int32.toUInt32 31)).toInt32) &&& (858993459 : Int32))) + ((Int32.toUInt32 (((p0 - (((Int32.toUInt32 p0 >>> (Int32.toUInt32 (1 : Int32) &&& Int32.toUInt32 31)).toInt32) &&& (1431655765 : Int32))) &&& (858993459 : Int32)) + (((Int32.toUInt32 (p0 - (((Int32.toUInt32 p0 >>> (Int32.toUInt32 (1 : Int32) &&& Int32.toUInt32 31)).toInt32) &&& (1431655765 : Int32))) >>> (Int32.toUInt32 (2 : Int32) &&& Int32.toUInt32 31)).toInt32) &&& (858993459 : Int32))) >>> (Int32.toUInt32 (4 : Int32) &&& Int32.toUInt32 31)).toInt32)) &&& (252645135 : Int32)) + ((Int32.toUInt32 (((((p0 - (((Int32.toUInt32 p0 >>> (Int32.toUInt32 (1 : Int32) &&& Int32.toUInt32 31)).toInt32) &&& (1431655765 : Int32))) &&& (858993459 : Int32)) + (((Int32.toUInt32 (p0 - (((Int32.toUInt32 p0 >>> (Int32.toUInt32 (1 : Int32) &&& Int32.toUInt32 31)).toInt32) &&& (1431655765 : Int32))) >>> (Int32.toUInt32 (2 : Int32) &&& Int32.toUInt32 31)).toInt32) &&& (858993459 : Int32))) + ((Int32.toUInt32 (((p0 - (((Int32.toUInt32 p0 >>> (Int32.toUInt32 (1 : Int32) &&& Int32.toUInt32 31)).toInt32) &&& (1431655765 : Int32))) &&& (858993459 : Int32)) + (((Int32.toUInt32 (p0 - (((Int32.toUInt32 p0 >>> (Int32.toUInt32 (1 : Int32) &&& Int32.toUInt32 31)).toInt32) &&& (1431655765 : Int32))) >>> (Int32.toUInt32 (2 : Int32) &&& Int32.toUInt32 31)).toInt32) &&& (858993459 : Int32))) >>> (Int32.toUInt32 (4 : Int32) &&& Int32.toUInt32 31)).toInt32)) &&& (252645135 : Int32)) >>> (Int32.toUInt32 (8 : Int32) &&& Int32.toUInt32 31)).toInt32)))]) hx hb dJ6_bitCount_0f7a4_40 rfl hl (by decide) rfl (fun ls hl => ?_)
  refine lv_iload_n hx hb dJ6_bitCount_0f7a4_41 rfl (lv_at hl 0 rfl) ?_
  refine lv_iload_n hx hb dJ6_bitCount_0f7a4_42 rfl (lv_at hl 0 rfl) ?_
  refine lv_bipush (v := 16) hx hb dJ6_bitCount_0f7a4_43 (by decide) ?_
  refine lv_iushr hx hb dJ6_bitCount_0f7a4_45 rfl ?_
  refine lv_iadd hx hb dJ6_bitCount_0f7a4_46 ?_
  refine lv_istore_n (lv' := [(0, .int (((((((p0 - (((Int32.toUInt32 p0 >>> (Int32.toUInt32 (1 : Int32) &&& Int32.toUInt32 31)).toInt32) &&& (1431655765 : Int32))) &&& (858993459 : Int32)) + (((Int32.toUInt32 (p0 - (((Int32.toUInt32 p0 >>> (Int32.toUInt32 (1 : Int32) &&& Int32.toUInt32 31)).toInt32) &&& (1431655765 : Int32))) >>> (Int32.toUInt32 (2 : Int32) &&& Int32.toUInt32 31)).toInt32) &&& (858993459 : Int32))) + ((Int32.toUInt32 (((p0 - (((Int32.toUInt32 p0 >>> (Int32.toUInt32 (1 : Int32) &&& Int32.toUInt32 31)).toInt32) &&& (1431655765 : Int32))) &&& (858993459 : Int32)) + (((Int32.toUInt32 (p0 - (((Int32.toUInt32 p0 >>> (Int32.toUInt32 (1 : Int32) &&& Int32.toUInt32 31)).toInt32) &&& (1431655765 : Int32))) >>> (Int32.toUInt32 (2 : Int32) &&& Int32.toUInt32 31)).toInt32) &&& (858993459 : Int32))) >>> (Int32.toUInt32 (4 : Int32) &&& Int32.toUInt32 31)).toInt32)) &&& (252645135 : Int32)) + ((Int32.toUInt32 (((((p0 - (((Int32.toUInt32 p0 >>> (Int32.toUInt32 (1 : Int32) &&& Int32.toUInt32 31)).toInt32) &&& (1431655765 : Int32))) &&& (858993459 : Int32)) + (((Int32.toUInt32 (p0 - (((Int32.toUInt32 p0 >>> (Int32.toUInt32 (1 : Int32) &&& Int32.toUInt32 31)).toInt32) &&& (1431655765 : Int32))) >>> (Int32.toUInt32 (2 : Int32) &&& Int32.toUInt32 31)).toInt32) &&& (858993459 : Int32))) + ((Int32.toUInt32 (((p0 - (((Int32.toUInt32 p0 >>> (Int32.toUInt32 (1 : Int32) &&& Int32.toUInt32 31)).toInt32) &&& (1431655765 : Int32))) &&& (858993459 : Int32)) + (((Int32.toUInt32 (p0 - (((Int32.toUInt32 p0 >>> (Int32.toUInt32 (1 : Int32) &&& Int32.toUInt32 31)).toInt32) &&& (1431655765 : Int32))) >>> (Int32.toUInt32 (2 : Int32) &&& Int32.toUInt32 31)).toInt32) &&& (858993459 : Int32))) >>> (Int32.toUInt32 (4 : Int32) &&& Int32.toUInt32 31)).toInt32)) &&& (252645135 : Int32)) >>> (Int32.toUInt32 (8 : Int32) &&& Int32.toUInt32 31)).toInt32)) + ((Int32.toUInt32 ((((((p0 - (((Int32.toUInt32 p0 >>> (Int32.toUInt32 (1 : Int32) &&& Int32.toUInt32 31)).toInt32) &&& (1431655765 : Int32))) &&& (858993459 : Int32)) + (((Int32.toUInt32 (p0 - (((Int32.toUInt32 p0 >>> (Int32.toUInt32 (1 : Int32) &&& Int32.toUInt32 31)).toInt32) &&& (1431655765 : Int32))) >>> (Int32.toUInt32 (2 : Int32) &&& Int32.toUInt32 31)).toInt32) &&& (858993459 : Int32))) + ((Int32.toUInt32 (((p0 - (((Int32.toUInt32 p0 >>> (Int32.toUInt32 (1 : Int32) &&& Int32.toUInt32 31)).toInt32) &&& (1431655765 : Int32))) &&& (858993459 : Int32)) + (((Int32.toUInt32 (p0 - (((Int32.toUInt32 p0 >>> (Int32.toUInt32 (1 : Int32) &&& Int32.toUInt32 31)).toInt32) &&& (1431655765 : Int32))) >>> (Int32.toUInt32 (2 : Int32) &&& Int32.toUInt32 31)).toInt32) &&& (858993459 : Int32))) >>> (Int32.toUInt32 (4 : Int32) &&& Int32.toUInt32 31)).toInt32)) &&& (252645135 : Int32)) + ((Int32.toUInt32 (((((p0 - (((Int32.toUInt32 p0 >>> (Int32.toUInt32 (1 : Int32) &&& Int32.toUInt32 31)).toInt32) &&& (1431655765 : Int32))) &&& (858993459 : Int32)) + (((Int32.toUInt32 (p0 - (((Int32.toUInt32 p0 >>> (Int32.toUInt32 (1 : Int32) &&& Int32.toUInt32 31)).toInt32) &&& (1431655765 : Int32))) >>> (Int32.toUInt32 (2 : Int32) &&& Int32.toUInt32 31)).toInt32) &&& (858993459 : Int32))) + ((Int32.toUInt32 (((p0 - (((Int32.toUInt32 p0 >>> (Int32.toUInt32 (1 : Int32) &&& Int32.toUInt32 31)).toInt32) &&& (1431655765 : Int32))) &&& (858993459 : Int32)) + (((Int32.toUInt32 (p0 - (((Int32.toUInt32 p0 >>> (Int32.toUInt32 (1 : Int32) &&& Int32.toUInt32 31)).toInt32) &&& (1431655765 : Int32))) >>> (Int32.toUInt32 (2 : Int32) &&& Int32.toUInt32 31)).toInt32) &&& (858993459 : Int32))) >>> (Int32.toUInt32 (4 : Int32) &&& Int32.toUInt32 31)).toInt32)) &&& (252645135 : Int32)) >>> (Int32.toUInt32 (8 : Int32) &&& Int32.toUInt32 31)).toInt32)) >>> (Int32.toUInt32 (16 : Int32) &&& Int32.toUInt32 31)).toInt32)))]) hx hb dJ6_bitCount_0f7a4_47 rfl hl (by decide) rfl (fun ls hl => ?_)
  refine lv_iload_n hx hb dJ6_bitCount_0f7a4_48 rfl (lv_at hl 0 rfl) ?_
  refine lv_bipush (v := 63) hx hb dJ6_bitCount_0f7a4_49 (by decide) ?_
  refine lv_iand hx hb dJ6_bitCount_0f7a4_51 ?_
  obtain rfl := ret1 h
  exact rI hQ hx hb hr hlocks hAe hP hS rfl rfl dJ6_bitCount_0f7a4_52
/-! X2_wholeCount -/
set_option maxHeartbeats 4000000 in
set_option maxRecDepth 100000 in
theorem c_X2_wholeCount (l : Launch) (D : va_G) (cI : ClassId) (h0 h1 h2 h3 h4 h5 h6 h7 : Nat) (v : SV)  (res : Int32) (h : M_X2_wholeCount v = some res) : mI l yX2_wholeCount wsX2_wholeCount { frames := 2, cells := 0, slots := 0, locals := 43 } D cI [.ref h0] (cS h0 h1 h2 h3 h4 h5 h6 h7 cI v) (cS h0 h1 h2 h3 h4 h5 h6 h7 cI v) res := by
  intro sz
  refine mStart (cc := cX2_wholeCount) (maxL := 1) (ret := (some .int)) (own := RX2) (by decide) rfl rfl (Nat.le_of_ble_eq_true rfl) (lv := [(0, .ref h0)]) rfl ?_
  intro p e s m args below meth c A ls Q H locs CF hr hlocks hK hP hD hS hA hAe hl hQ
  obtain ⟨hx, hb, hml, hown, hts⟩ := id CF
  unfold M_X2_wholeCount at h
  refine lv_aload_n hx hb dX2_wholeCount_0 rfl (lv_at hl 0 rfl) ?_
  obtain ⟨r1, q1, h⟩ := bnd1_inv h
  refine kVI (n := 0) (As := []) (rest := []) CF hl hK hP hD hS hA (c_X2_wholeBits l D cI h0 h1 h2 h3 h4 h5 h6 h7 v  r1 q1) gX2_wholeCount_X2_wholeBits rfl dX2_wholeCount_1 (by decide +kernel) ⟨⟨rfl, rfl⟩, ⟨Nat.le_of_ble_eq_true rfl, Nat.le_of_ble_eq_true rfl⟩, Nat.zero_le _, Nat.zero_le _⟩ (JN.whole rfl) 0 rfl ⟨rfl, rfl⟩ rfl rfl (Nat.le_of_ble_eq_true rfl) (fun H locs hP hD hS => ?_)
  replace hP : va_P D vwCl (cS h0 h1 h2 h3 h4 h5 h6 h7 cI v) H := hP
  replace hD : va_D A (cS h0 h1 h2 h3 h4 h5 h6 h7 cI v) := hD
  obtain ⟨r4, q4, h⟩ := bnd1_inv h
  refine kSI (n := 1) (As := [.int r1]) (rest := []) CF hl hK hP hD hS hA (c_J6_bitCount_0f7a4 l D cI   r1 r4 q4) gX2_wholeCount_J6_bitCount_0f7a4 rfl dX2_wholeCount_4 (by decide +kernel) ⟨⟨rfl, rfl⟩, ⟨Nat.le_of_ble_eq_true rfl, Nat.le_of_ble_eq_true rfl⟩, Nat.zero_le _, Nat.zero_le _⟩ (JN.ro [] rfl rfl) rfl rfl (Nat.le_of_ble_eq_true rfl) (fun H locs hP hD hS => ?_)
  obtain rfl := ret1 h
  exact rI hQ hx hb hr hlocks hAe hP hS rfl rfl dX2_wholeCount_7
/-! X2_mournedBits -/
set_option maxHeartbeats 4000000 in
set_option maxRecDepth 100000 in
theorem c_X2_mournedBits (l : Launch) (D : va_G) (cI : ClassId) (h0 h1 h2 h3 h4 h5 h6 h7 : Nat) (v : SV)  (res : Int32) (h : M_X2_mournedBits v = some res) : mI l yX2_mournedBits wsX2_mournedBits { frames := 1, cells := 0, slots := 0, locals := 21 } D cI [.ref h0] (cS h0 h1 h2 h3 h4 h5 h6 h7 cI v) (cS h0 h1 h2 h3 h4 h5 h6 h7 cI v) res := by
  intro sz
  refine mStart (cc := cX2_mournedBits) (maxL := 3) (ret := (some .int)) (own := RX2) (by decide) rfl rfl (Nat.le_of_ble_eq_true rfl) (lv := [(0, .ref h0)]) rfl ?_
  intro p e s m args below meth c A ls Q H locs CF hr hlocks hK hP hD hS hA hAe hl hQ
  obtain ⟨hx, hb, hml, hown, hts⟩ := id CF
  have f37 := hts (.fieldLink RX2 37 "MendAnothersBreaking$State" "things" "I") (List.mem_of_getElem? (i := 1) rfl)
  have i2 : ∀ w ∈ wsX20, w ∈ wsX2_mournedBits := fun w h => List.mem_cons_of_mem _ (List.mem_append_right _ h)
  have L4 : ∀ (n : Nat)  (x1 : Int32) (x2 : Int32), fuel (fun _ _ => none) (B_X2_mournedBits_4 v) n x1 x2 = some res → 
      ∀ (H : Heap) (locs : List Loc) (ls : Array Slot), va_P D vwCl (cS h0 h1 h2 h3 h4 h5 h6 h7 cI v) H → va_D A (cS h0 h1 h2 h3 h4 h5 h6 h7 cI v) → va_S A s.heap H locs → lv_has ls 3 [(0, .ref h0), (1, .int x1), (2, .int x2)] → W p l e { frames := 1, cells := 0, slots := 0, locals := 21 } s m args below meth c H locs 0 0 Q (F0 m 4 ls []) := by
    intro n
    induction n with
    | zero =>
      intro x1 x2 h
      exact nomatch (show (none : Option (Int32)) = some res from h)
    | succ n ih =>
      intro x1 x2 h  H locs ls hP hD hS hl
      replace h : B_X2_mournedBits_4 v (fuel (fun _ _ => none) (B_X2_mournedBits_4 v) n) x1 x2 = some res := h
      unfold B_X2_mournedBits_4 at h
      refine lv_iload_n hx hb dX2_mournedBits_4 rfl (lv_at hl 2 rfl) ?_
      refine lv_aload_n hx hb dX2_mournedBits_5 rfl (lv_at hl 0 rfl) ?_
      refine va_get (D := D) (ci := 2) (v := .int (sTh v)) (C := RX2) (T := TX2) (N := 10) hx hb hts i2 hown hK hP 0 rfl rfl 8 (by decide) f37 (fun _ h9 => h9) rfl dX2_mournedBits_6 ?_
      refine lv_icmp_ge (tgt := 36) hx hb dX2_mournedBits_9 (by decide) (fun c9 => ?_) (fun c9 => ?_)
      · replace h := fx_ite_t c9 h
        refine lv_iload_n hx hb dX2_mournedBits_36 rfl (lv_at hl 1 rfl) ?_
        obtain rfl := ret1 h
        exact rI hQ hx hb hr hlocks hAe hP hS rfl rfl dX2_mournedBits_37
      · replace h := fx_ite_f c9 h
        refine lv_iload_n hx hb dX2_mournedBits_12 rfl (lv_at hl 1 rfl) ?_
        refine lv_aload_n hx hb dX2_mournedBits_13 rfl (lv_at hl 0 rfl) ?_
        refine lv_iload_n hx hb dX2_mournedBits_14 rfl (lv_at hl 2 rfl) ?_
        obtain ⟨r15, q15, h⟩ := bnd1_inv h
        refine kVI (n := 1) (As := [.int x2]) (rest := [.int x1]) CF hl hK hP hD hS hA (c_X2_isMourned l D cI h0 h1 h2 h3 h4 h5 h6 h7 v x2 r15 q15) gX2_mournedBits_X2_isMourned rfl dX2_mournedBits_15 (by decide +kernel) ⟨⟨rfl, rfl⟩, ⟨Nat.le_of_ble_eq_true rfl, Nat.le_of_ble_eq_true rfl⟩, Nat.zero_le _, Nat.zero_le _⟩ (JN.whole rfl) 0 rfl ⟨rfl, rfl⟩ rfl rfl (Nat.le_of_ble_eq_true rfl) (fun H locs hP hD hS => ?_)
        replace hP : va_P D vwCl (cS h0 h1 h2 h3 h4 h5 h6 h7 cI v) H := hP
        replace hD : va_D A (cS h0 h1 h2 h3 h4 h5 h6 h7 cI v) := hD
        refine lv_if_eq (tgt := 27) hx hb dX2_mournedBits_18 (by decide) (fun c18 => ?_) (fun c18 => ?_)
        · replace h := fx_ite_t c18 h
          refine lv_iconst (v := 0) hx hb dX2_mournedBits_27 (by decide) ?_
          refine lv_ior hx hb dX2_mournedBits_28 ?_
          refine lv_istore_n (lv' := [(1, .int (x1 ||| (0 : Int32))), (0, .ref h0), (2, .int x2)]) hx hb dX2_mournedBits_29 rfl hl (by decide) rfl (fun ls hl => ?_)
          refine lv_iinc (v := (x2 + 1)) (lv' := [(2, .int (x2 + 1)), (1, .int (x1 ||| (0 : Int32))), (0, .ref h0)]) hx hb dX2_mournedBits_30 hl (k := 2) rfl (by first | rfl | decide) (by decide) rfl (fun ls hl => ?_)
          refine lv_goto (tgt := 4) hx hb dX2_mournedBits_33 (by decide) ?_
          exact ih _ _ h  _ _ _ hP hD hS (lv_sub hl [2, 1, 0] rfl)
        · replace h := fx_ite_f c18 h
          refine lv_iconst (v := 1) hx hb dX2_mournedBits_21 (by decide) ?_
          refine lv_iload_n hx hb dX2_mournedBits_22 rfl (lv_at hl 2 rfl) ?_
          refine lv_ishl hx hb dX2_mournedBits_23 ?_
          refine lv_goto (tgt := 28) hx hb dX2_mournedBits_24 (by decide) ?_
          refine lv_ior hx hb dX2_mournedBits_28 ?_
          refine lv_istore_n (lv' := [(1, .int (x1 ||| ((1 : Int32) <<< (x2 &&& 31)))), (0, .ref h0), (2, .int x2)]) hx hb dX2_mournedBits_29 rfl hl (by decide) rfl (fun ls hl => ?_)
          refine lv_iinc (v := (x2 + 1)) (lv' := [(2, .int (x2 + 1)), (1, .int (x1 ||| ((1 : Int32) <<< (x2 &&& 31)))), (0, .ref h0)]) hx hb dX2_mournedBits_30 hl (k := 2) rfl (by first | rfl | decide) (by decide) rfl (fun ls hl => ?_)
          refine lv_goto (tgt := 4) hx hb dX2_mournedBits_33 (by decide) ?_
          exact ih _ _ h  _ _ _ hP hD hS (lv_sub hl [2, 1, 0] rfl)
  unfold M_X2_mournedBits at h
  refine lv_iconst (v := 0) hx hb dX2_mournedBits_0 (by decide) ?_
  refine lv_istore_n (lv' := [(1, .int (0 : Int32)), (0, .ref h0)]) hx hb dX2_mournedBits_1 rfl hl (by decide) rfl (fun ls hl => ?_)
  refine lv_iconst (v := 0) hx hb dX2_mournedBits_2 (by decide) ?_
  refine lv_istore_n (lv' := [(2, .int (0 : Int32)), (1, .int (0 : Int32)), (0, .ref h0)]) hx hb dX2_mournedBits_3 rfl hl (by decide) rfl (fun ls hl => ?_)
  exact L4 FU _ _ h  _ _ _ hP hD hS (lv_sub hl [2, 1, 0] rfl)
/-! X2_wearOfWhole -/
set_option maxHeartbeats 4000000 in
set_option maxRecDepth 100000 in
theorem c_X2_wearOfWhole (l : Launch) (D : va_G) (cI : ClassId) (h0 h1 h2 h3 h4 h5 h6 h7 : Nat) (v : SV)  (res : Int32) (h : M_X2_wearOfWhole v = some res) : mI l yX2_wearOfWhole wsX2_wearOfWhole { frames := 1, cells := 0, slots := 0, locals := 21 } D cI [.ref h0] (cS h0 h1 h2 h3 h4 h5 h6 h7 cI v) (cS h0 h1 h2 h3 h4 h5 h6 h7 cI v) res := by
  intro sz
  refine mStart (cc := cX2_wearOfWhole) (maxL := 3) (ret := (some .int)) (own := RX2) (by decide) rfl rfl (Nat.le_of_ble_eq_true rfl) (lv := [(0, .ref h0)]) rfl ?_
  intro p e s m args below meth c A ls Q H locs CF hr hlocks hK hP hD hS hA hAe hl hQ
  obtain ⟨hx, hb, hml, hown, hts⟩ := id CF
  have f27 := hts (.fieldLink RX2 27 "MendAnothersBreaking$State" "wear" "[I") (List.mem_of_getElem? (i := 2) rfl)
  have f37 := hts (.fieldLink RX2 37 "MendAnothersBreaking$State" "things" "I") (List.mem_of_getElem? (i := 1) rfl)
  have i2 : ∀ w ∈ wsX20, w ∈ wsX2_wearOfWhole := fun w h => List.mem_cons_of_mem _ (List.mem_append_right _ h)
  have L4 : ∀ (n : Nat)  (x1 : Int32) (x2 : Int32), fuel (fun _ _ => none) (B_X2_wearOfWhole_4 v) n x1 x2 = some res → 
      ∀ (H : Heap) (locs : List Loc) (ls : Array Slot), va_P D vwCl (cS h0 h1 h2 h3 h4 h5 h6 h7 cI v) H → va_D A (cS h0 h1 h2 h3 h4 h5 h6 h7 cI v) → va_S A s.heap H locs → lv_has ls 3 [(0, .ref h0), (1, .int x1), (2, .int x2)] → W p l e { frames := 1, cells := 0, slots := 0, locals := 21 } s m args below meth c H locs 0 0 Q (F0 m 4 ls []) := by
    intro n
    induction n with
    | zero =>
      intro x1 x2 h
      exact nomatch (show (none : Option (Int32)) = some res from h)
    | succ n ih =>
      intro x1 x2 h  H locs ls hP hD hS hl
      replace h : B_X2_wearOfWhole_4 v (fuel (fun _ _ => none) (B_X2_wearOfWhole_4 v) n) x1 x2 = some res := h
      unfold B_X2_wearOfWhole_4 at h
      refine lv_iload_n hx hb dX2_wearOfWhole_4 rfl (lv_at hl 2 rfl) ?_
      refine lv_aload_n hx hb dX2_wearOfWhole_5 rfl (lv_at hl 0 rfl) ?_
      refine va_get (D := D) (ci := 2) (v := .int (sTh v)) (C := RX2) (T := TX2) (N := 10) hx hb hts i2 hown hK hP 0 rfl rfl 8 (by decide) f37 (fun _ h9 => h9) rfl dX2_wearOfWhole_6 ?_
      refine lv_icmp_ge (tgt := 39) hx hb dX2_wearOfWhole_9 (by decide) (fun c9 => ?_) (fun c9 => ?_)
      · replace h := fx_ite_t c9 h
        refine lv_iload_n hx hb dX2_wearOfWhole_39 rfl (lv_at hl 1 rfl) ?_
        obtain rfl := ret1 h
        exact rI hQ hx hb hr hlocks hAe hP hS rfl rfl dX2_wearOfWhole_40
      · replace h := fx_ite_f c9 h
        refine lv_iload_n hx hb dX2_wearOfWhole_12 rfl (lv_at hl 1 rfl) ?_
        refine lv_aload_n hx hb dX2_wearOfWhole_13 rfl (lv_at hl 0 rfl) ?_
        refine lv_iload_n hx hb dX2_wearOfWhole_14 rfl (lv_at hl 2 rfl) ?_
        obtain ⟨r15, q15, h⟩ := bnd1_inv h
        refine kVI (n := 1) (As := [.int x2]) (rest := [.int x1]) CF hl hK hP hD hS hA (c_X2_isWhole l D cI h0 h1 h2 h3 h4 h5 h6 h7 v x2 r15 q15) gX2_wearOfWhole_X2_isWhole rfl dX2_wearOfWhole_15 (by decide +kernel) ⟨⟨rfl, rfl⟩, ⟨Nat.le_of_ble_eq_true rfl, Nat.le_of_ble_eq_true rfl⟩, Nat.zero_le _, Nat.zero_le _⟩ (JN.whole rfl) 0 rfl ⟨rfl, rfl⟩ rfl rfl (Nat.le_of_ble_eq_true rfl) (fun H locs hP hD hS => ?_)
        replace hP : va_P D vwCl (cS h0 h1 h2 h3 h4 h5 h6 h7 cI v) H := hP
        replace hD : va_D A (cS h0 h1 h2 h3 h4 h5 h6 h7 cI v) := hD
        refine lv_if_eq (tgt := 30) hx hb dX2_wearOfWhole_18 (by decide) (fun c18 => ?_) (fun c18 => ?_)
        · replace h := fx_ite_t c18 h
          refine lv_iconst (v := 0) hx hb dX2_wearOfWhole_30 (by decide) ?_
          refine lv_iadd hx hb dX2_wearOfWhole_31 ?_
          refine lv_istore_n (lv' := [(1, .int (x1 + (0 : Int32))), (0, .ref h0), (2, .int x2)]) hx hb dX2_wearOfWhole_32 rfl hl (by decide) rfl (fun ls hl => ?_)
          refine lv_iinc (v := (x2 + 1)) (lv' := [(2, .int (x2 + 1)), (1, .int (x1 + (0 : Int32))), (0, .ref h0)]) hx hb dX2_wearOfWhole_33 hl (k := 2) rfl (by first | rfl | decide) (by decide) rfl (fun ls hl => ?_)
          refine lv_goto (tgt := 4) hx hb dX2_wearOfWhole_36 (by decide) ?_
          exact ih _ _ h  _ _ _ hP hD hS (lv_sub hl [2, 1, 0] rfl)
        · replace h := fx_ite_f c18 h
          refine lv_aload_n hx hb dX2_wearOfWhole_21 rfl (lv_at hl 0 rfl) ?_
          refine va_get (D := D) (ci := 2) (v := .ref h6) (C := RX2) (T := TX2) (N := 10) hx hb hts i2 hown hK hP 0 rfl rfl 5 (by decide) f27 (fun _ h9 => h9) rfl dX2_wearOfWhole_22 ?_
          refine lv_iload_n hx hb dX2_wearOfWhole_25 rfl (lv_at hl 2 rfl) ?_
          obtain ⟨g26, h⟩ := chk_inv h
          refine va_iald (n := 9) (f := (sWe v)) hx hb hK hP 6 0 rfl rfl g26 dX2_wearOfWhole_26 ?_
          refine lv_goto (tgt := 31) hx hb dX2_wearOfWhole_27 (by decide) ?_
          refine lv_iadd hx hb dX2_wearOfWhole_31 ?_
          refine lv_istore_n (lv' := [(1, .int (x1 + ((sWe v) (Int32.toNatClampNeg x2)))), (0, .ref h0), (2, .int x2)]) hx hb dX2_wearOfWhole_32 rfl hl (by decide) rfl (fun ls hl => ?_)
          refine lv_iinc (v := (x2 + 1)) (lv' := [(2, .int (x2 + 1)), (1, .int (x1 + ((sWe v) (Int32.toNatClampNeg x2)))), (0, .ref h0)]) hx hb dX2_wearOfWhole_33 hl (k := 2) rfl (by first | rfl | decide) (by decide) rfl (fun ls hl => ?_)
          refine lv_goto (tgt := 4) hx hb dX2_wearOfWhole_36 (by decide) ?_
          exact ih _ _ h  _ _ _ hP hD hS (lv_sub hl [2, 1, 0] rfl)
  unfold M_X2_wearOfWhole at h
  refine lv_iconst (v := 0) hx hb dX2_wearOfWhole_0 (by decide) ?_
  refine lv_istore_n (lv' := [(1, .int (0 : Int32)), (0, .ref h0)]) hx hb dX2_wearOfWhole_1 rfl hl (by decide) rfl (fun ls hl => ?_)
  refine lv_iconst (v := 0) hx hb dX2_wearOfWhole_2 (by decide) ?_
  refine lv_istore_n (lv' := [(2, .int (0 : Int32)), (1, .int (0 : Int32)), (0, .ref h0)]) hx hb dX2_wearOfWhole_3 rfl hl (by decide) rfl (fun ls hl => ?_)
  exact L4 FU _ _ h  _ _ _ hP hD hS (lv_sub hl [2, 1, 0] rfl)
/-! X2_wearOfAll -/
set_option maxHeartbeats 4000000 in
set_option maxRecDepth 100000 in
theorem c_X2_wearOfAll (l : Launch) (D : va_G) (cI : ClassId) (h0 h1 h2 h3 h4 h5 h6 h7 : Nat) (v : SV)  (res : Int32) (h : M_X2_wearOfAll v = some res) : mI l yX2_wearOfAll wsX2_wearOfAll { frames := 0, cells := 0, slots := 0, locals := 0 } D cI [.ref h0] (cS h0 h1 h2 h3 h4 h5 h6 h7 cI v) (cS h0 h1 h2 h3 h4 h5 h6 h7 cI v) res := by
  intro sz
  refine mStart (cc := cX2_wearOfAll) (maxL := 3) (ret := (some .int)) (own := RX2) (by decide) rfl rfl (Nat.le_of_ble_eq_true rfl) (lv := [(0, .ref h0)]) rfl ?_
  intro p e s m args below meth c A ls Q H locs CF hr hlocks hK hP hD hS hA hAe hl hQ
  obtain ⟨hx, hb, hml, hown, hts⟩ := id CF
  have f27 := hts (.fieldLink RX2 27 "MendAnothersBreaking$State" "wear" "[I") (List.mem_of_getElem? (i := 2) rfl)
  have f37 := hts (.fieldLink RX2 37 "MendAnothersBreaking$State" "things" "I") (List.mem_of_getElem? (i := 1) rfl)
  have i2 : ∀ w ∈ wsX20, w ∈ wsX2_wearOfAll := fun w h => List.mem_cons_of_mem _ (List.mem_append_right _ h)
  have L4 : ∀ (n : Nat)  (x1 : Int32) (x2 : Int32), fuel (fun _ _ => none) (B_X2_wearOfAll_4 v) n x1 x2 = some res → 
      ∀ (H : Heap) (locs : List Loc) (ls : Array Slot), va_P D vwCl (cS h0 h1 h2 h3 h4 h5 h6 h7 cI v) H → va_D A (cS h0 h1 h2 h3 h4 h5 h6 h7 cI v) → va_S A s.heap H locs → lv_has ls 3 [(0, .ref h0), (1, .int x1), (2, .int x2)] → W p l e { frames := 0, cells := 0, slots := 0, locals := 0 } s m args below meth c H locs 0 0 Q (F0 m 4 ls []) := by
    intro n
    induction n with
    | zero =>
      intro x1 x2 h
      exact nomatch (show (none : Option (Int32)) = some res from h)
    | succ n ih =>
      intro x1 x2 h  H locs ls hP hD hS hl
      replace h : B_X2_wearOfAll_4 v (fuel (fun _ _ => none) (B_X2_wearOfAll_4 v) n) x1 x2 = some res := h
      unfold B_X2_wearOfAll_4 at h
      refine lv_iload_n hx hb dX2_wearOfAll_4 rfl (lv_at hl 2 rfl) ?_
      refine lv_aload_n hx hb dX2_wearOfAll_5 rfl (lv_at hl 0 rfl) ?_
      refine va_get (D := D) (ci := 2) (v := .int (sTh v)) (C := RX2) (T := TX2) (N := 10) hx hb hts i2 hown hK hP 0 rfl rfl 8 (by decide) f37 (fun _ h9 => h9) rfl dX2_wearOfAll_6 ?_
      refine lv_icmp_ge (tgt := 27) hx hb dX2_wearOfAll_9 (by decide) (fun c9 => ?_) (fun c9 => ?_)
      · replace h := fx_ite_t c9 h
        refine lv_iload_n hx hb dX2_wearOfAll_27 rfl (lv_at hl 1 rfl) ?_
        obtain rfl := ret1 h
        exact rI hQ hx hb hr hlocks hAe hP hS rfl rfl dX2_wearOfAll_28
      · replace h := fx_ite_f c9 h
        refine lv_iload_n hx hb dX2_wearOfAll_12 rfl (lv_at hl 1 rfl) ?_
        refine lv_aload_n hx hb dX2_wearOfAll_13 rfl (lv_at hl 0 rfl) ?_
        refine va_get (D := D) (ci := 2) (v := .ref h6) (C := RX2) (T := TX2) (N := 10) hx hb hts i2 hown hK hP 0 rfl rfl 5 (by decide) f27 (fun _ h9 => h9) rfl dX2_wearOfAll_14 ?_
        refine lv_iload_n hx hb dX2_wearOfAll_17 rfl (lv_at hl 2 rfl) ?_
        obtain ⟨g18, h⟩ := chk_inv h
        refine va_iald (n := 9) (f := (sWe v)) hx hb hK hP 6 0 rfl rfl g18 dX2_wearOfAll_18 ?_
        refine lv_iadd hx hb dX2_wearOfAll_19 ?_
        refine lv_istore_n (lv' := [(1, .int (x1 + ((sWe v) (Int32.toNatClampNeg x2)))), (0, .ref h0), (2, .int x2)]) hx hb dX2_wearOfAll_20 rfl hl (by decide) rfl (fun ls hl => ?_)
        refine lv_iinc (v := (x2 + 1)) (lv' := [(2, .int (x2 + 1)), (1, .int (x1 + ((sWe v) (Int32.toNatClampNeg x2)))), (0, .ref h0)]) hx hb dX2_wearOfAll_21 hl (k := 2) rfl (by first | rfl | decide) (by decide) rfl (fun ls hl => ?_)
        refine lv_goto (tgt := 4) hx hb dX2_wearOfAll_24 (by decide) ?_
        exact ih _ _ h  _ _ _ hP hD hS (lv_sub hl [2, 1, 0] rfl)
  unfold M_X2_wearOfAll at h
  refine lv_iconst (v := 0) hx hb dX2_wearOfAll_0 (by decide) ?_
  refine lv_istore_n (lv' := [(1, .int (0 : Int32)), (0, .ref h0)]) hx hb dX2_wearOfAll_1 rfl hl (by decide) rfl (fun ls hl => ?_)
  refine lv_iconst (v := 0) hx hb dX2_wearOfAll_2 (by decide) ?_
  refine lv_istore_n (lv' := [(2, .int (0 : Int32)), (1, .int (0 : Int32)), (0, .ref h0)]) hx hb dX2_wearOfAll_3 rfl hl (by decide) rfl (fun ls hl => ?_)
  exact L4 FU _ _ h  _ _ _ hP hD hS (lv_sub hl [2, 1, 0] rfl)
/-! X2_mendedByAll -/
set_option maxHeartbeats 4000000 in
set_option maxRecDepth 100000 in
theorem c_X2_mendedByAll (l : Launch) (D : va_G) (cI : ClassId) (h0 h1 h2 h3 h4 h5 h6 h7 : Nat) (v : SV)  (res : Int32) (h : M_X2_mendedByAll v = some res) : mI l yX2_mendedByAll wsX2_mendedByAll { frames := 0, cells := 0, slots := 0, locals := 0 } D cI [.ref h0] (cS h0 h1 h2 h3 h4 h5 h6 h7 cI v) (cS h0 h1 h2 h3 h4 h5 h6 h7 cI v) res := by
  intro sz
  refine mStart (cc := cX2_mendedByAll) (maxL := 3) (ret := (some .int)) (own := RX2) (by decide) rfl rfl (Nat.le_of_ble_eq_true rfl) (lv := [(0, .ref h0)]) rfl ?_
  intro p e s m args below meth c A ls Q H locs CF hr hlocks hK hP hD hS hA hAe hl hQ
  obtain ⟨hx, hb, hml, hown, hts⟩ := id CF
  have f15 := hts (.fieldLink RX2 15 "MendAnothersBreaking$State" "mended" "[I") (List.mem_of_getElem? (i := 2) rfl)
  have f33 := hts (.fieldLink RX2 33 "MendAnothersBreaking$State" "people" "I") (List.mem_of_getElem? (i := 1) rfl)
  have i2 : ∀ w ∈ wsX20, w ∈ wsX2_mendedByAll := fun w h => List.mem_cons_of_mem _ (List.mem_append_right _ h)
  have L4 : ∀ (n : Nat)  (x1 : Int32) (x2 : Int32), fuel (fun _ _ => none) (B_X2_mendedByAll_4 v) n x1 x2 = some res → 
      ∀ (H : Heap) (locs : List Loc) (ls : Array Slot), va_P D vwCl (cS h0 h1 h2 h3 h4 h5 h6 h7 cI v) H → va_D A (cS h0 h1 h2 h3 h4 h5 h6 h7 cI v) → va_S A s.heap H locs → lv_has ls 3 [(0, .ref h0), (1, .int x1), (2, .int x2)] → W p l e { frames := 0, cells := 0, slots := 0, locals := 0 } s m args below meth c H locs 0 0 Q (F0 m 4 ls []) := by
    intro n
    induction n with
    | zero =>
      intro x1 x2 h
      exact nomatch (show (none : Option (Int32)) = some res from h)
    | succ n ih =>
      intro x1 x2 h  H locs ls hP hD hS hl
      replace h : B_X2_mendedByAll_4 v (fuel (fun _ _ => none) (B_X2_mendedByAll_4 v) n) x1 x2 = some res := h
      unfold B_X2_mendedByAll_4 at h
      refine lv_iload_n hx hb dX2_mendedByAll_4 rfl (lv_at hl 2 rfl) ?_
      refine lv_aload_n hx hb dX2_mendedByAll_5 rfl (lv_at hl 0 rfl) ?_
      refine va_get (D := D) (ci := 2) (v := .int (sPe v)) (C := RX2) (T := TX2) (N := 10) hx hb hts i2 hown hK hP 0 rfl rfl 7 (by decide) f33 (fun _ h9 => h9) rfl dX2_mendedByAll_6 ?_
      refine lv_icmp_ge (tgt := 27) hx hb dX2_mendedByAll_9 (by decide) (fun c9 => ?_) (fun c9 => ?_)
      · replace h := fx_ite_t c9 h
        refine lv_iload_n hx hb dX2_mendedByAll_27 rfl (lv_at hl 1 rfl) ?_
        obtain rfl := ret1 h
        exact rI hQ hx hb hr hlocks hAe hP hS rfl rfl dX2_mendedByAll_28
      · replace h := fx_ite_f c9 h
        refine lv_iload_n hx hb dX2_mendedByAll_12 rfl (lv_at hl 1 rfl) ?_
        refine lv_aload_n hx hb dX2_mendedByAll_13 rfl (lv_at hl 0 rfl) ?_
        refine va_get (D := D) (ci := 2) (v := .ref h2) (C := RX2) (T := TX2) (N := 10) hx hb hts i2 hown hK hP 0 rfl rfl 1 (by decide) f15 (fun _ h9 => h9) rfl dX2_mendedByAll_14 ?_
        refine lv_iload_n hx hb dX2_mendedByAll_17 rfl (lv_at hl 2 rfl) ?_
        obtain ⟨g18, h⟩ := chk_inv h
        refine va_iald (n := 6) (f := (sMe v)) hx hb hK hP 2 0 rfl rfl g18 dX2_mendedByAll_18 ?_
        refine lv_iadd hx hb dX2_mendedByAll_19 ?_
        refine lv_istore_n (lv' := [(1, .int (x1 + ((sMe v) (Int32.toNatClampNeg x2)))), (0, .ref h0), (2, .int x2)]) hx hb dX2_mendedByAll_20 rfl hl (by decide) rfl (fun ls hl => ?_)
        refine lv_iinc (v := (x2 + 1)) (lv' := [(2, .int (x2 + 1)), (1, .int (x1 + ((sMe v) (Int32.toNatClampNeg x2)))), (0, .ref h0)]) hx hb dX2_mendedByAll_21 hl (k := 2) rfl (by first | rfl | decide) (by decide) rfl (fun ls hl => ?_)
        refine lv_goto (tgt := 4) hx hb dX2_mendedByAll_24 (by decide) ?_
        exact ih _ _ h  _ _ _ hP hD hS (lv_sub hl [2, 1, 0] rfl)
  unfold M_X2_mendedByAll at h
  refine lv_iconst (v := 0) hx hb dX2_mendedByAll_0 (by decide) ?_
  refine lv_istore_n (lv' := [(1, .int (0 : Int32)), (0, .ref h0)]) hx hb dX2_mendedByAll_1 rfl hl (by decide) rfl (fun ls hl => ?_)
  refine lv_iconst (v := 0) hx hb dX2_mendedByAll_2 (by decide) ?_
  refine lv_istore_n (lv' := [(2, .int (0 : Int32)), (1, .int (0 : Int32)), (0, .ref h0)]) hx hb dX2_mendedByAll_3 rfl hl (by decide) rfl (fun ls hl => ?_)
  exact L4 FU _ _ h  _ _ _ hP hD hS (lv_sub hl [2, 1, 0] rfl)
