/-! X3_due -/
set_option maxHeartbeats 4000000 in
set_option maxRecDepth 100000 in
theorem c_X3_due (l : Launch) (D : va_G) (cI : ClassId) (a : Nat → Nat) (no : SV) (mi : SV) (ke : SV) (hk : Int32) (sg : (Nat → Int32)) (lz : Int32) (rn : (Nat → Int32)) (rs : Int32) (rf : (Nat → Int32)) (be : (Nat → Int32)) (fh : (Nat → Int32)) (oh : (Nat → Int32)) (p1 : Int32) (res : Int32) (u_rf : (Nat → Int32)) (h : M_X3_due no rf p1 = some (res, u_rf)) : mI l yX3_due wsX3_due { frames := 1, cells := 0, slots := 0, locals := 21 } D cI [.ref (a 0), .int p1] (cX a cI no mi ke hk sg lz rn rs rf be fh oh) (cX a cI no mi ke hk sg lz rn rs u_rf be fh oh) res := by
  intro sz
  refine mStart (cc := cX3_due) (maxL := 4) (ret := (some .int)) (own := RX3) (by decide) rfl rfl (Nat.le_of_ble_eq_true rfl) (lv := [(0, .ref (a 0)), (1, .int p1)]) rfl ?_
  intro p e s m args below meth c A ls Q H locs CF hr hlocks hK hP hD hS hA hAe hl hQ
  obtain ⟨hx, hb, hml, hown, hts⟩ := id CF
  have f10 := hts (.fieldLink RX3 10 "MendAnothersBreaking" "now" "LMendAnothersBreaking$State;") (List.mem_of_getElem? (i := 1) rfl)
  have f108 := hts (.fieldLink RX3 108 "MendAnothersBreaking$State" "owners" "[I") (List.mem_of_getElem? (i := 5) rfl)
  have f114 := hts (.fieldLink RX3 114 "MendAnothersBreaking$State" "breakers" "[I") (List.mem_of_getElem? (i := 4) rfl)
  have f171 := hts (.fieldLink RX3 171 "MendAnothersBreaking$State" "things" "I") (List.mem_of_getElem? (i := 3) rfl)
  have k207 := hts (.constant RX3 207 (1000000000)) (List.mem_of_getElem? (i := 2) rfl)
  have i2 : ∀ w ∈ wsX20, w ∈ wsX3_due := fun w h => List.mem_cons_of_mem _ (List.mem_append_right _ h)
  have i3 : ∀ w ∈ wsX30, w ∈ wsX3_due := fun w h => List.mem_cons_of_mem _ (List.mem_append_left _ (List.mem_append_right _ h))
  have L24 : ∀ (n : Nat) (x1 : Int32) (rf : (Nat → Int32)) (x2 : Int32) (x3 : Int32), fuel (fun _ _ => none) (B_X3_due_24 x1 no rf) n x2 x3 = some (res, u_rf) → 
      ∀ (H : Heap) (locs : List Loc) (ls : Array Slot), va_P D vwCl (cX a cI no mi ke hk sg lz rn rs rf be fh oh) H → va_D A (cX a cI no mi ke hk sg lz rn rs rf be fh oh) → va_S A s.heap H locs → lv_has ls 4 [(0, .ref (a 0)), (1, .int x1), (2, .int x2), (3, .int x3)] → W p l e { frames := 1, cells := 0, slots := 0, locals := 21 } s m args below meth c H locs 0 0 Q (F0 m 24 ls []) := by
    intro n
    induction n with
    | zero =>
      intro x1 rf x2 x3 h
      exact nomatch (show (none : Option (Int32 × (Nat → Int32))) = some (res, u_rf) from h)
    | succ n ih =>
      intro x1 rf x2 x3 h  H locs ls hP hD hS hl
      replace h : B_X3_due_24 x1 no rf (fuel (fun _ _ => none) (B_X3_due_24 x1 no rf) n) x2 x3 = some (res, u_rf) := h
      unfold B_X3_due_24 at h
      refine lv_iload_n hx hb dX3_due_24 rfl (lv_at hl 3 rfl) ?_
      refine lv_aload_n hx hb dX3_due_25 rfl (lv_at hl 0 rfl) ?_
      refine va_get (D := D) (ci := 3) (v := .ref (a 1)) (C := RX3) (T := TX3) (N := 11) hx hb hts i3 hown hK hP 0 rfl rfl 0 (by decide) f10 (fun _ h9 => h9) rfl dX3_due_26 ?_
      refine va_get (D := D) (ci := 2) (v := .int (sTh no)) (C := RX2) (T := TX2) (N := 10) hx hb hts i2 hown hK hP 1 rfl rfl 8 (by decide) f171 (fun _ h9 => h9) rfl dX3_due_29 ?_
      refine lv_icmp_ge (tgt := 87) hx hb dX3_due_32 (by decide) (fun c32 => ?_) (fun c32 => ?_)
      · replace h := fx_ite_t c32 h
        refine lv_iload_n hx hb dX3_due_87 rfl (lv_at hl 2 rfl) ?_
        obtain ⟨rfl, rfl⟩ := ret2 h
        exact rI hQ hx hb hr hlocks hAe hP hS rfl rfl dX3_due_88
      · replace h := fx_ite_f c32 h
        refine lv_aload_n hx hb dX3_due_35 rfl (lv_at hl 0 rfl) ?_
        refine va_get (D := D) (ci := 3) (v := .ref (a 1)) (C := RX3) (T := TX3) (N := 11) hx hb hts i3 hown hK hP 0 rfl rfl 0 (by decide) f10 (fun _ h9 => h9) rfl dX3_due_36 ?_
        refine lv_iload_n hx hb dX3_due_39 rfl (lv_at hl 3 rfl) ?_
        obtain ⟨r40, q40, h⟩ := bnd1_inv h
        refine kVI (n := 1) (As := [.int x3]) (rest := []) CF hl hK hP hD hS hA (c_X2_isByAnother l D cI (a 1) (a 2) (a 3) (a 4) (a 5) (a 6) (a 7) (a 8) no x3 r40 q40) gX3_due_X2_isByAnother rfl dX3_due_40 (by decide +kernel) ⟨⟨rfl, rfl⟩, ⟨Nat.le_of_ble_eq_true rfl, Nat.le_of_ble_eq_true rfl⟩, Nat.zero_le _, Nat.zero_le _⟩ (JN.ro [1, 2, 3, 4, 5, 6, 7, 8] rfl rfl) 1 rfl ⟨rfl, rfl⟩ rfl rfl (Nat.le_of_ble_eq_true rfl) (fun H locs hP hD hS => ?_)
        refine lv_if_eq (tgt := 81) hx hb dX3_due_43 (by decide) (fun c43 => ?_) (fun c43 => ?_)
        · replace h := fx_ite_t c43 h
          refine lv_iinc (v := (x3 + 1)) (lv' := [(3, .int (x3 + 1)), (0, .ref (a 0)), (1, .int x1), (2, .int x2)]) hx hb dX3_due_81 hl (k := 3) rfl (by first | rfl | decide) (by decide) rfl (fun ls hl => ?_)
          refine lv_goto (tgt := 24) hx hb dX3_due_84 (by decide) ?_
          exact ih _ _ _ _ h  _ _ _ hP hD hS (lv_sub hl [1, 2, 3, 0] rfl)
        · replace h := fx_ite_f c43 h
          refine lv_aload_n hx hb dX3_due_46 rfl (lv_at hl 0 rfl) ?_
          refine va_get (D := D) (ci := 3) (v := .ref (a 1)) (C := RX3) (T := TX3) (N := 11) hx hb hts i3 hown hK hP 0 rfl rfl 0 (by decide) f10 (fun _ h9 => h9) rfl dX3_due_47 ?_
          refine va_get (D := D) (ci := 2) (v := .ref (a 8)) (C := RX2) (T := TX2) (N := 10) hx hb hts i2 hown hK hP 1 rfl rfl 6 (by decide) f114 (fun _ h9 => h9) rfl dX3_due_50 ?_
          refine lv_iload_n hx hb dX3_due_53 rfl (lv_at hl 3 rfl) ?_
          obtain ⟨g54, h⟩ := chk_inv h
          refine va_iald (n := 9) (f := (sBr no)) hx hb hK hP 8 0 rfl rfl g54 dX3_due_54 ?_
          refine lv_iload_n hx hb dX3_due_55 rfl (lv_at hl 1 rfl) ?_
          refine lv_icmp_ne (tgt := 65) hx hb dX3_due_56 (by decide) (fun c56 => ?_) (fun c56 => ?_)
          · replace h := fx_ite_f c56 h
            refine lv_aload_n hx hb dX3_due_65 rfl (lv_at hl 0 rfl) ?_
            refine va_get (D := D) (ci := 3) (v := .ref (a 1)) (C := RX3) (T := TX3) (N := 11) hx hb hts i3 hown hK hP 0 rfl rfl 0 (by decide) f10 (fun _ h9 => h9) rfl dX3_due_66 ?_
            refine va_get (D := D) (ci := 2) (v := .ref (a 6)) (C := RX2) (T := TX2) (N := 10) hx hb hts i2 hown hK hP 1 rfl rfl 4 (by decide) f108 (fun _ h9 => h9) rfl dX3_due_69 ?_
            refine lv_iload_n hx hb dX3_due_72 rfl (lv_at hl 3 rfl) ?_
            obtain ⟨g73, h⟩ := chk_inv h
            refine va_iald (n := 9) (f := (sOw no)) hx hb hK hP 6 0 rfl rfl g73 dX3_due_73 ?_
            refine lv_iload_n hx hb dX3_due_74 rfl (lv_at hl 1 rfl) ?_
            refine lv_icmp_ne (tgt := 81) hx hb dX3_due_75 (by decide) (fun c75 => ?_) (fun c75 => ?_)
            · replace h := fx_ite_f c75 h
              refine lv_iinc (v := (x3 + 1)) (lv' := [(3, .int (x3 + 1)), (0, .ref (a 0)), (1, .int x1), (2, .int x2)]) hx hb dX3_due_81 hl (k := 3) rfl (by first | rfl | decide) (by decide) rfl (fun ls hl => ?_)
              refine lv_goto (tgt := 24) hx hb dX3_due_84 (by decide) ?_
              exact ih _ _ _ _ h  _ _ _ hP hD hS (lv_sub hl [1, 2, 3, 0] rfl)
            · replace h := fx_ite_t c75 h
              refine lv_iinc (v := (x2 + (-1))) (lv' := [(2, .int (x2 + (-1))), (0, .ref (a 0)), (1, .int x1), (3, .int x3)]) hx hb dX3_due_78 hl (k := 2) rfl (by first | rfl | decide) (by decide) rfl (fun ls hl => ?_)
              refine lv_iinc (v := (x3 + 1)) (lv' := [(3, .int (x3 + 1)), (2, .int (x2 + (-1))), (0, .ref (a 0)), (1, .int x1)]) hx hb dX3_due_81 hl (k := 3) rfl (by first | rfl | decide) (by decide) rfl (fun ls hl => ?_)
              refine lv_goto (tgt := 24) hx hb dX3_due_84 (by decide) ?_
              exact ih _ _ _ _ h  _ _ _ hP hD hS (lv_sub hl [2, 3, 1, 0] rfl)
          · replace h := fx_ite_t c56 h
            refine lv_iinc (v := (x2 + 1)) (lv' := [(2, .int (x2 + 1)), (0, .ref (a 0)), (1, .int x1), (3, .int x3)]) hx hb dX3_due_59 hl (k := 2) rfl (by first | rfl | decide) (by decide) rfl (fun ls hl => ?_)
            refine lv_goto (tgt := 81) hx hb dX3_due_62 (by decide) ?_
            refine lv_iinc (v := (x3 + 1)) (lv' := [(3, .int (x3 + 1)), (2, .int (x2 + 1)), (0, .ref (a 0)), (1, .int x1)]) hx hb dX3_due_81 hl (k := 3) rfl (by first | rfl | decide) (by decide) rfl (fun ls hl => ?_)
            refine lv_goto (tgt := 24) hx hb dX3_due_84 (by decide) ?_
            exact ih _ _ _ _ h  _ _ _ hP hD hS (lv_sub hl [2, 3, 1, 0] rfl)
  unfold M_X3_due at h
  refine lv_aload_n hx hb dX3_due_0 rfl (lv_at hl 0 rfl) ?_
  refine va_get (D := D) (ci := 3) (v := .ref (a 1)) (C := RX3) (T := TX3) (N := 11) hx hb hts i3 hown hK hP 0 rfl rfl 0 (by decide) f10 (fun _ h9 => h9) rfl dX3_due_1 ?_
  refine lv_iload_n hx hb dX3_due_4 rfl (lv_at hl 1 rfl) ?_
  obtain ⟨r5, q5, h⟩ := bnd1_inv h
  refine kVI (n := 1) (As := [.int p1]) (rest := []) CF hl hK hP hD hS hA (c_X2_isPerson l D cI (a 1) (a 2) (a 3) (a 4) (a 5) (a 6) (a 7) (a 8) no p1 r5 q5) gX3_due_X2_isPerson rfl dX3_due_5 (by decide +kernel) ⟨⟨rfl, rfl⟩, ⟨Nat.le_of_ble_eq_true rfl, Nat.le_of_ble_eq_true rfl⟩, Nat.zero_le _, Nat.zero_le _⟩ (JN.ro [1, 2, 3, 4, 5, 6, 7, 8] rfl rfl) 1 rfl ⟨rfl, rfl⟩ rfl rfl (Nat.le_of_ble_eq_true rfl) (fun H locs hP hD hS => ?_)
  refine lv_if_ne (tgt := 20) hx hb dX3_due_8 (by decide) (fun c8 => ?_) (fun c8 => ?_)
  · replace h := fx_ite_f c8 h
    refine lv_iconst (v := 0) hx hb dX3_due_20 (by decide) ?_
    refine lv_istore_n (lv' := [(2, .int (0 : Int32)), (0, .ref (a 0)), (1, .int p1)]) hx hb dX3_due_21 rfl hl (by decide) rfl (fun ls hl => ?_)
    refine lv_iconst (v := 0) hx hb dX3_due_22 (by decide) ?_
    refine lv_istore_n (lv' := [(3, .int (0 : Int32)), (2, .int (0 : Int32)), (0, .ref (a 0)), (1, .int p1)]) hx hb dX3_due_23 rfl hl (by decide) rfl (fun ls hl => ?_)
    exact L24 FU _ _ _ _ h  _ _ _ hP hD hS (lv_sub hl [2, 3, 1, 0] rfl)
  · replace h := fx_ite_t c8 h
    refine lv_ldc (v := 1000000000) hx hb hown k207 dX3_due_11 ?_
    refine lv_aload_n hx hb dX3_due_13 rfl (lv_at hl 0 rfl) ?_
    refine lv_iconst (v := (-1)) hx hb dX3_due_14 (by decide) ?_
    obtain ⟨r15, u15_rf, q15, h⟩ := bnd2_inv h
    refine kVI (n := 1) (As := [.int (-1 : Int32)]) (rest := [.int (1000000000 : Int32)]) CF hl hK hP hD hS hA (c_X3_refuse l D cI a no mi ke hk sg lz rn rs rf be fh oh (-1 : Int32) r15 u15_rf q15) gX3_due_X3_refuse rfl dX3_due_15 (by decide +kernel) ⟨⟨rfl, rfl⟩, ⟨Nat.le_of_ble_eq_true rfl, Nat.le_of_ble_eq_true rfl⟩, Nat.zero_le _, Nat.zero_le _⟩ (JN.whole (w1 := (cX a cI no mi ke hk sg lz rn rs u15_rf be fh oh)) rfl) 0 rfl ⟨rfl, rfl⟩ rfl rfl (Nat.le_of_ble_eq_true rfl) (fun H locs hP hD hS => ?_)
    replace hP : va_P D vwCl (cX a cI no mi ke hk sg lz rn rs u15_rf be fh oh) H := hP
    replace hD : va_D A (cX a cI no mi ke hk sg lz rn rs u15_rf be fh oh) := hD
    refine lv_isub hx hb dX3_due_18 ?_
    obtain ⟨rfl, rfl⟩ := ret2 h
    exact rI hQ hx hb hr hlocks hAe hP hS rfl rfl dX3_due_19
/-! X3_ring -/
set_option maxHeartbeats 4000000 in
set_option maxRecDepth 100000 in
theorem c_X3_ring (l : Launch) (D : va_G) (cI : ClassId) (a : Nat → Nat) (no : SV) (mi : SV) (ke : SV) (hk : Int32) (sg : (Nat → Int32)) (lz : Int32) (rn : (Nat → Int32)) (rs : Int32) (rf : (Nat → Int32)) (be : (Nat → Int32)) (fh : (Nat → Int32)) (oh : (Nat → Int32)) (p1 : Int32) (p2 : Int32) (res : Int32) (u_rf : (Nat → Int32)) (h : M_X3_ring no rf p1 p2 = some (res, u_rf)) : mI l yX3_ring wsX3_ring { frames := 2, cells := 0, slots := 0, locals := 43 } D cI [.ref (a 0), .int p1, .int p2] (cX a cI no mi ke hk sg lz rn rs rf be fh oh) (cX a cI no mi ke hk sg lz rn rs u_rf be fh oh) res := by
  intro sz
  refine mStart (cc := cX3_ring) (maxL := 6) (ret := (some .int)) (own := RX3) (by decide) rfl rfl (Nat.le_of_ble_eq_true rfl) (lv := [(0, .ref (a 0)), (1, .int p1), (2, .int p2)]) rfl ?_
  intro p e s m args below meth c A ls Q H locs CF hr hlocks hK hP hD hS hA hAe hl hQ
  obtain ⟨hx, hb, hml, hown, hts⟩ := id CF
  have f10 := hts (.fieldLink RX3 10 "MendAnothersBreaking" "now" "LMendAnothersBreaking$State;") (List.mem_of_getElem? (i := 1) rfl)
  have i3 : ∀ w ∈ wsX30, w ∈ wsX3_ring := fun w h => List.mem_cons_of_mem _ (List.mem_append_left _ (List.mem_append_right _ h))
  have L41 : ∀ (n : Nat) (x2 : Int32) (rf : (Nat → Int32)) (x3 : Int32) (x4 : Int32) (x5 : Int32), fuel (fun _ _ _ => none) (B_X3_ring_41 x2 no rf) n x3 x4 x5 = some (res, u_rf) → 
      ∀ (H : Heap) (locs : List Loc) (ls : Array Slot), va_P D vwCl (cX a cI no mi ke hk sg lz rn rs rf be fh oh) H → va_D A (cX a cI no mi ke hk sg lz rn rs rf be fh oh) → va_S A s.heap H locs → lv_has ls 6 [(0, .ref (a 0)), (2, .int x2), (3, .int x3), (4, .int x4), (5, .int x5)] → W p l e { frames := 2, cells := 0, slots := 0, locals := 43 } s m args below meth c H locs 0 0 Q (F0 m 41 ls []) := by
    intro n
    induction n with
    | zero =>
      intro x2 rf x3 x4 x5 h
      exact nomatch (show (none : Option (Int32 × (Nat → Int32))) = some (res, u_rf) from h)
    | succ n ih =>
      intro x2 rf x3 x4 x5 h  H locs ls hP hD hS hl
      replace h : B_X3_ring_41 x2 no rf (fuel (fun _ _ _ => none) (B_X3_ring_41 x2 no rf) n) x3 x4 x5 = some (res, u_rf) := h
      unfold B_X3_ring_41 at h
      refine lv_iload hx hb dX3_ring_41 (lv_at hl 4 rfl) ?_
      refine lv_bipush (v := 6) hx hb dX3_ring_43 (by decide) ?_
      refine lv_icmp_ge (tgt := 88) hx hb dX3_ring_45 (by decide) (fun c45 => ?_) (fun c45 => ?_)
      · replace h := fx_ite_t c45 h
        refine lv_iload_n hx hb dX3_ring_88 rfl (lv_at hl 1 rfl) ?_
        refine lv_if_ne (tgt := 97) hx hb dX3_ring_89 (by decide) (fun c89 => ?_) (fun c89 => ?_)
        · replace h := fx_ite_f c89 h
          refine lv_iload hx hb dX3_ring_97 (lv_at hl 3 rfl) ?_
          refine lv_bipush (v := (-9)) hx hb dX3_ring_99 (by decide) ?_
          refine lv_icmp_ne (tgt := 108) hx hb dX3_ring_101 (by decide) (fun c101 => ?_) (fun c101 => ?_)
          · replace h := fx_ite_f c101 h
            refine lv_iconst (v := 1) hx hb dX3_ring_108 (by decide) ?_
            obtain ⟨rfl, rfl⟩ := ret2 h
            exact rI hQ hx hb hr hlocks hAe hP hS rfl rfl dX3_ring_109
          · replace h := fx_ite_t c101 h
            refine lv_iconst (v := 0) hx hb dX3_ring_104 (by decide) ?_
            refine lv_goto (tgt := 109) hx hb dX3_ring_105 (by decide) ?_
            obtain ⟨rfl, rfl⟩ := ret2 h
            exact rI hQ hx hb hr hlocks hAe hP hS rfl rfl dX3_ring_109
        · replace h := fx_ite_t c89 h
          refine lv_iload_n hx hb dX3_ring_92 rfl (lv_at hl 2 rfl) ?_
          obtain ⟨r93, q93, h⟩ := bnd1_inv h
          refine kSI (n := 1) (As := [.int x3]) (rest := []) CF hl hK hP hD hS hA (c_J6_bitCount_0f7a4 l D cI   x3 r93 q93) gX3_ring_J6_bitCount_0f7a4 rfl dX3_ring_93 (by decide +kernel) ⟨⟨rfl, rfl⟩, ⟨Nat.le_of_ble_eq_true rfl, Nat.le_of_ble_eq_true rfl⟩, Nat.zero_le _, Nat.zero_le _⟩ (JN.ro [] rfl rfl) rfl rfl (Nat.le_of_ble_eq_true rfl) (fun H locs hP hD hS => ?_)
          obtain ⟨rfl, rfl⟩ := ret2 h
          exact rI hQ hx hb hr hlocks hAe hP hS rfl rfl dX3_ring_96
      · replace h := fx_ite_f c45 h
        refine lv_iload hx hb dX3_ring_48 (lv_at hl 3 rfl) ?_
        refine lv_bipush (v := (-9)) hx hb dX3_ring_50 (by decide) ?_
        refine lv_icmp_eq (tgt := 88) hx hb dX3_ring_52 (by decide) (fun c52 => ?_) (fun c52 => ?_)
        · replace h := fx_ite_t c52 h
          refine lv_iload_n hx hb dX3_ring_88 rfl (lv_at hl 1 rfl) ?_
          refine lv_if_ne (tgt := 97) hx hb dX3_ring_89 (by decide) (fun c89 => ?_) (fun c89 => ?_)
          · replace h := fx_ite_f c89 h
            refine lv_iload hx hb dX3_ring_97 (lv_at hl 3 rfl) ?_
            refine lv_bipush (v := (-9)) hx hb dX3_ring_99 (by decide) ?_
            refine lv_icmp_ne (tgt := 108) hx hb dX3_ring_101 (by decide) (fun c101 => ?_) (fun c101 => ?_)
            · replace h := fx_ite_f c101 h
              refine lv_iconst (v := 1) hx hb dX3_ring_108 (by decide) ?_
              obtain ⟨rfl, rfl⟩ := ret2 h
              exact rI hQ hx hb hr hlocks hAe hP hS rfl rfl dX3_ring_109
            · replace h := fx_ite_t c101 h
              refine lv_iconst (v := 0) hx hb dX3_ring_104 (by decide) ?_
              refine lv_goto (tgt := 109) hx hb dX3_ring_105 (by decide) ?_
              obtain ⟨rfl, rfl⟩ := ret2 h
              exact rI hQ hx hb hr hlocks hAe hP hS rfl rfl dX3_ring_109
          · replace h := fx_ite_t c89 h
            refine lv_iload_n hx hb dX3_ring_92 rfl (lv_at hl 2 rfl) ?_
            obtain ⟨r93, q93, h⟩ := bnd1_inv h
            refine kSI (n := 1) (As := [.int x3]) (rest := []) CF hl hK hP hD hS hA (c_J6_bitCount_0f7a4 l D cI   x3 r93 q93) gX3_ring_J6_bitCount_0f7a4 rfl dX3_ring_93 (by decide +kernel) ⟨⟨rfl, rfl⟩, ⟨Nat.le_of_ble_eq_true rfl, Nat.le_of_ble_eq_true rfl⟩, Nat.zero_le _, Nat.zero_le _⟩ (JN.ro [] rfl rfl) rfl rfl (Nat.le_of_ble_eq_true rfl) (fun H locs hP hD hS => ?_)
            obtain ⟨rfl, rfl⟩ := ret2 h
            exact rI hQ hx hb hr hlocks hAe hP hS rfl rfl dX3_ring_96
        · replace h := fx_ite_f c52 h
          refine lv_iload_n hx hb dX3_ring_55 rfl (lv_at hl 2 rfl) ?_
          refine lv_iconst (v := 1) hx hb dX3_ring_56 (by decide) ?_
          refine lv_iload hx hb dX3_ring_57 (lv_at hl 3 rfl) ?_
          refine lv_ishl hx hb dX3_ring_59 ?_
          refine lv_iand hx hb dX3_ring_60 ?_
          refine lv_if_ne (tgt := 88) hx hb dX3_ring_61 (by decide) (fun c61 => ?_) (fun c61 => ?_)
          · replace h := fx_ite_f c61 h
            refine lv_iload_n hx hb dX3_ring_88 rfl (lv_at hl 1 rfl) ?_
            refine lv_if_ne (tgt := 97) hx hb dX3_ring_89 (by decide) (fun c89 => ?_) (fun c89 => ?_)
            · replace h := fx_ite_f c89 h
              refine lv_iload hx hb dX3_ring_97 (lv_at hl 3 rfl) ?_
              refine lv_bipush (v := (-9)) hx hb dX3_ring_99 (by decide) ?_
              refine lv_icmp_ne (tgt := 108) hx hb dX3_ring_101 (by decide) (fun c101 => ?_) (fun c101 => ?_)
              · replace h := fx_ite_f c101 h
                refine lv_iconst (v := 1) hx hb dX3_ring_108 (by decide) ?_
                obtain ⟨rfl, rfl⟩ := ret2 h
                exact rI hQ hx hb hr hlocks hAe hP hS rfl rfl dX3_ring_109
              · replace h := fx_ite_t c101 h
                refine lv_iconst (v := 0) hx hb dX3_ring_104 (by decide) ?_
                refine lv_goto (tgt := 109) hx hb dX3_ring_105 (by decide) ?_
                obtain ⟨rfl, rfl⟩ := ret2 h
                exact rI hQ hx hb hr hlocks hAe hP hS rfl rfl dX3_ring_109
            · replace h := fx_ite_t c89 h
              refine lv_iload_n hx hb dX3_ring_92 rfl (lv_at hl 2 rfl) ?_
              obtain ⟨r93, q93, h⟩ := bnd1_inv h
              refine kSI (n := 1) (As := [.int x3]) (rest := []) CF hl hK hP hD hS hA (c_J6_bitCount_0f7a4 l D cI   x3 r93 q93) gX3_ring_J6_bitCount_0f7a4 rfl dX3_ring_93 (by decide +kernel) ⟨⟨rfl, rfl⟩, ⟨Nat.le_of_ble_eq_true rfl, Nat.le_of_ble_eq_true rfl⟩, Nat.zero_le _, Nat.zero_le _⟩ (JN.ro [] rfl rfl) rfl rfl (Nat.le_of_ble_eq_true rfl) (fun H locs hP hD hS => ?_)
              obtain ⟨rfl, rfl⟩ := ret2 h
              exact rI hQ hx hb hr hlocks hAe hP hS rfl rfl dX3_ring_96
          · replace h := fx_ite_t c61 h
            refine lv_iload_n hx hb dX3_ring_64 rfl (lv_at hl 2 rfl) ?_
            refine lv_iconst (v := 1) hx hb dX3_ring_65 (by decide) ?_
            refine lv_iload hx hb dX3_ring_66 (lv_at hl 3 rfl) ?_
            refine lv_ishl hx hb dX3_ring_68 ?_
            refine lv_ior hx hb dX3_ring_69 ?_
            refine lv_istore_n (lv' := [(3, .int (x3 ||| ((1 : Int32) <<< (x4 &&& 31)))), (0, .ref (a 0)), (2, .int x2), (4, .int x4), (5, .int x5)]) hx hb dX3_ring_70 rfl hl (by decide) rfl (fun ls hl => ?_)
            refine lv_aload_n hx hb dX3_ring_71 rfl (lv_at hl 1 rfl) ?_
            refine va_get (D := D) (ci := 3) (v := .ref (a 1)) (C := RX3) (T := TX3) (N := 11) hx hb hts i3 hown hK hP 0 rfl rfl 0 (by decide) f10 (fun _ h9 => h9) rfl dX3_ring_72 ?_
            refine lv_iload hx hb dX3_ring_75 (lv_at hl 3 rfl) ?_
            obtain ⟨r77, q77, h⟩ := bnd1_inv h
            refine kVI (n := 1) (As := [.int x4]) (rest := []) CF hl hK hP hD hS hA (c_X2_breakerOfLeast l D cI (a 1) (a 2) (a 3) (a 4) (a 5) (a 6) (a 7) (a 8) no x4 r77 q77) gX3_ring_X2_breakerOfLeast rfl dX3_ring_77 (by decide +kernel) ⟨⟨rfl, rfl⟩, ⟨Nat.le_of_ble_eq_true rfl, Nat.le_of_ble_eq_true rfl⟩, Nat.zero_le _, Nat.zero_le _⟩ (JN.ro [1, 2, 3, 4, 5, 6, 7, 8] rfl rfl) 1 rfl ⟨rfl, rfl⟩ rfl rfl (Nat.le_of_ble_eq_true rfl) (fun H locs hP hD hS => ?_)
            refine lv_istore (lv' := [(4, .int r77), (3, .int (x3 ||| ((1 : Int32) <<< (x4 &&& 31)))), (0, .ref (a 0)), (2, .int x2), (5, .int x5)]) hx hb dX3_ring_80 hl (by decide) rfl (fun ls hl => ?_)
            refine lv_iinc (v := (x5 + 1)) (lv' := [(5, .int (x5 + 1)), (4, .int r77), (3, .int (x3 ||| ((1 : Int32) <<< (x4 &&& 31)))), (0, .ref (a 0)), (2, .int x2)]) hx hb dX3_ring_82 hl (k := 4) rfl (by first | rfl | decide) (by decide) rfl (fun ls hl => ?_)
            refine lv_goto (tgt := 41) hx hb dX3_ring_85 (by decide) ?_
            exact ih _ _ _ _ _ h  _ _ _ hP hD hS (lv_sub hl [3, 4, 2, 1, 0] rfl)
  unfold M_X3_ring at h
  refine lv_aload_n hx hb dX3_ring_0 rfl (lv_at hl 0 rfl) ?_
  refine va_get (D := D) (ci := 3) (v := .ref (a 1)) (C := RX3) (T := TX3) (N := 11) hx hb hts i3 hown hK hP 0 rfl rfl 0 (by decide) f10 (fun _ h9 => h9) rfl dX3_ring_1 ?_
  refine lv_iload_n hx hb dX3_ring_4 rfl (lv_at hl 1 rfl) ?_
  obtain ⟨r5, q5, h⟩ := bnd1_inv h
  refine kVI (n := 1) (As := [.int p1]) (rest := []) CF hl hK hP hD hS hA (c_X2_isPerson l D cI (a 1) (a 2) (a 3) (a 4) (a 5) (a 6) (a 7) (a 8) no p1 r5 q5) gX3_ring_X2_isPerson rfl dX3_ring_5 (by decide +kernel) ⟨⟨rfl, rfl⟩, ⟨Nat.le_of_ble_eq_true rfl, Nat.le_of_ble_eq_true rfl⟩, Nat.zero_le _, Nat.zero_le _⟩ (JN.ro [1, 2, 3, 4, 5, 6, 7, 8] rfl rfl) 1 rfl ⟨rfl, rfl⟩ rfl rfl (Nat.le_of_ble_eq_true rfl) (fun H locs hP hD hS => ?_)
  refine lv_if_ne (tgt := 17) hx hb dX3_ring_8 (by decide) (fun c8 => ?_) (fun c8 => ?_)
  · replace h := fx_ite_f c8 h
    refine lv_iload_n hx hb dX3_ring_17 rfl (lv_at hl 2 rfl) ?_
    refine lv_if_lt (tgt := 26) hx hb dX3_ring_18 (by decide) (fun c18 => ?_) (fun c18 => ?_)
    · replace h := fx_ite_t c18 h
      refine lv_aload_n hx hb dX3_ring_26 rfl (lv_at hl 0 rfl) ?_
      refine lv_bipush (v := (-2)) hx hb dX3_ring_27 (by decide) ?_
      obtain ⟨r29, u29_rf, q29, h⟩ := bnd2_inv h
      refine kVI (n := 1) (As := [.int (-2 : Int32)]) (rest := []) CF hl hK hP hD hS hA (c_X3_refuse l D cI a no mi ke hk sg lz rn rs rf be fh oh (-2 : Int32) r29 u29_rf q29) gX3_ring_X3_refuse rfl dX3_ring_29 (by decide +kernel) ⟨⟨rfl, rfl⟩, ⟨Nat.le_of_ble_eq_true rfl, Nat.le_of_ble_eq_true rfl⟩, Nat.zero_le _, Nat.zero_le _⟩ (JN.whole (w1 := (cX a cI no mi ke hk sg lz rn rs u29_rf be fh oh)) rfl) 0 rfl ⟨rfl, rfl⟩ rfl rfl (Nat.le_of_ble_eq_true rfl) (fun H locs hP hD hS => ?_)
      replace hP : va_P D vwCl (cX a cI no mi ke hk sg lz rn rs u29_rf be fh oh) H := hP
      replace hD : va_D A (cX a cI no mi ke hk sg lz rn rs u29_rf be fh oh) := hD
      obtain ⟨rfl, rfl⟩ := ret2 h
      exact rI hQ hx hb hr hlocks hAe hP hS rfl rfl dX3_ring_32
    · replace h := fx_ite_f c18 h
      refine lv_iload_n hx hb dX3_ring_21 rfl (lv_at hl 2 rfl) ?_
      refine lv_iconst (v := 1) hx hb dX3_ring_22 (by decide) ?_
      refine lv_icmp_le (tgt := 33) hx hb dX3_ring_23 (by decide) (fun c23 => ?_) (fun c23 => ?_)
      · replace h := fx_ite_t c23 h
        refine lv_iconst (v := 0) hx hb dX3_ring_33 (by decide) ?_
        refine lv_istore_n (lv' := [(3, .int (0 : Int32)), (0, .ref (a 0)), (1, .int p1), (2, .int p2)]) hx hb dX3_ring_34 rfl hl (by decide) rfl (fun ls hl => ?_)
        refine lv_iload_n hx hb dX3_ring_35 rfl (lv_at hl 2 rfl) ?_
        refine lv_istore (lv' := [(4, .int p1), (3, .int (0 : Int32)), (0, .ref (a 0)), (1, .int p1), (2, .int p2)]) hx hb dX3_ring_36 hl (by decide) rfl (fun ls hl => ?_)
        refine lv_iconst (v := 0) hx hb dX3_ring_38 (by decide) ?_
        refine lv_istore (lv' := [(5, .int (0 : Int32)), (4, .int p1), (3, .int (0 : Int32)), (0, .ref (a 0)), (1, .int p1), (2, .int p2)]) hx hb dX3_ring_39 hl (by decide) rfl (fun ls hl => ?_)
        exact L41 FU _ _ _ _ _ h  _ _ _ hP hD hS (lv_sub hl [3, 5, 2, 1, 0] rfl)
      · replace h := fx_ite_f c23 h
        refine lv_aload_n hx hb dX3_ring_26 rfl (lv_at hl 0 rfl) ?_
        refine lv_bipush (v := (-2)) hx hb dX3_ring_27 (by decide) ?_
        obtain ⟨r29, u29_rf, q29, h⟩ := bnd2_inv h
        refine kVI (n := 1) (As := [.int (-2 : Int32)]) (rest := []) CF hl hK hP hD hS hA (c_X3_refuse l D cI a no mi ke hk sg lz rn rs rf be fh oh (-2 : Int32) r29 u29_rf q29) gX3_ring_X3_refuse rfl dX3_ring_29 (by decide +kernel) ⟨⟨rfl, rfl⟩, ⟨Nat.le_of_ble_eq_true rfl, Nat.le_of_ble_eq_true rfl⟩, Nat.zero_le _, Nat.zero_le _⟩ (JN.whole (w1 := (cX a cI no mi ke hk sg lz rn rs u29_rf be fh oh)) rfl) 0 rfl ⟨rfl, rfl⟩ rfl rfl (Nat.le_of_ble_eq_true rfl) (fun H locs hP hD hS => ?_)
        replace hP : va_P D vwCl (cX a cI no mi ke hk sg lz rn rs u29_rf be fh oh) H := hP
        replace hD : va_D A (cX a cI no mi ke hk sg lz rn rs u29_rf be fh oh) := hD
        obtain ⟨rfl, rfl⟩ := ret2 h
        exact rI hQ hx hb hr hlocks hAe hP hS rfl rfl dX3_ring_32
  · replace h := fx_ite_t c8 h
    refine lv_aload_n hx hb dX3_ring_11 rfl (lv_at hl 0 rfl) ?_
    refine lv_iconst (v := (-1)) hx hb dX3_ring_12 (by decide) ?_
    obtain ⟨r13, u13_rf, q13, h⟩ := bnd2_inv h
    refine kVI (n := 1) (As := [.int (-1 : Int32)]) (rest := []) CF hl hK hP hD hS hA (c_X3_refuse l D cI a no mi ke hk sg lz rn rs rf be fh oh (-1 : Int32) r13 u13_rf q13) gX3_ring_X3_refuse rfl dX3_ring_13 (by decide +kernel) ⟨⟨rfl, rfl⟩, ⟨Nat.le_of_ble_eq_true rfl, Nat.le_of_ble_eq_true rfl⟩, Nat.zero_le _, Nat.zero_le _⟩ (JN.whole (w1 := (cX a cI no mi ke hk sg lz rn rs u13_rf be fh oh)) rfl) 0 rfl ⟨rfl, rfl⟩ rfl rfl (Nat.le_of_ble_eq_true rfl) (fun H locs hP hD hS => ?_)
    replace hP : va_P D vwCl (cX a cI no mi ke hk sg lz rn rs u13_rf be fh oh) H := hP
    replace hD : va_D A (cX a cI no mi ke hk sg lz rn rs u13_rf be fh oh) := hD
    obtain ⟨rfl, rfl⟩ := ret2 h
    exact rI hQ hx hb hr hlocks hAe hP hS rfl rfl dX3_ring_16
/-! X3_arrangements -/
set_option maxHeartbeats 4000000 in
set_option maxRecDepth 100000 in
theorem c_X3_arrangements (l : Launch) (D : va_G) (cI : ClassId) (a : Nat → Nat) (no : SV) (mi : SV) (ke : SV) (hk : Int32) (sg : (Nat → Int32)) (lz : Int32) (rn : (Nat → Int32)) (rs : Int32) (rf : (Nat → Int32)) (be : (Nat → Int32)) (fh : (Nat → Int32)) (oh : (Nat → Int32))  (res : Int32) (h : M_X3_arrangements no = some res) : mI l yX3_arrangements wsX3_arrangements { frames := 1, cells := 0, slots := 0, locals := 23 } D cI [.ref (a 0)] (cX a cI no mi ke hk sg lz rn rs rf be fh oh) (cX a cI no mi ke hk sg lz rn rs rf be fh oh) res := by
  intro sz
  refine mStart (cc := cX3_arrangements) (maxL := 4) (ret := (some .int)) (own := RX3) (by decide) rfl rfl (Nat.le_of_ble_eq_true rfl) (lv := [(0, .ref (a 0))]) rfl ?_
  intro p e s m args below meth c A ls Q H locs CF hr hlocks hK hP hD hS hA hAe hl hQ
  obtain ⟨hx, hb, hml, hown, hts⟩ := id CF
  have f10 := hts (.fieldLink RX3 10 "MendAnothersBreaking" "now" "LMendAnothersBreaking$State;") (List.mem_of_getElem? (i := 1) rfl)
  have f190 := hts (.fieldLink RX3 190 "MendAnothersBreaking$State" "people" "I") (List.mem_of_getElem? (i := 2) rfl)
  have i2 : ∀ w ∈ wsX20, w ∈ wsX3_arrangements := fun w h => List.mem_cons_of_mem _ (List.mem_append_right _ h)
  have i3 : ∀ w ∈ wsX30, w ∈ wsX3_arrangements := fun w h => List.mem_cons_of_mem _ (List.mem_append_left _ (List.mem_append_right _ h))
  have L19 : ∀ (n : Nat) (x2 : Int32) (k63 : Int32 → Option (Int32)) (x1 : Int32) (x3 : Int32), fuel (fun _ _ => none) (B_X3_arrangements_19 x2 no k63) n x1 x3 = some res → 
      (∀ (x1 : Int32), k63 x1 = some res → ∀ (H : Heap) (locs : List Loc) (ls : Array Slot), va_P D vwCl (cX a cI no mi ke hk sg lz rn rs rf be fh oh) H → va_D A (cX a cI no mi ke hk sg lz rn rs rf be fh oh) → va_S A s.heap H locs → lv_has ls 4 [(0, .ref (a 0)), (1, .int x1), (2, .int x2)] → W p l e { frames := 1, cells := 0, slots := 0, locals := 23 } s m args below meth c H locs 0 0 Q (F0 m 63 ls [])) → 
      ∀ (H : Heap) (locs : List Loc) (ls : Array Slot), va_P D vwCl (cX a cI no mi ke hk sg lz rn rs rf be fh oh) H → va_D A (cX a cI no mi ke hk sg lz rn rs rf be fh oh) → va_S A s.heap H locs → lv_has ls 4 [(0, .ref (a 0)), (1, .int x1), (2, .int x2), (3, .int x3)] → W p l e { frames := 1, cells := 0, slots := 0, locals := 23 } s m args below meth c H locs 0 0 Q (F0 m 19 ls []) := by
    intro n
    induction n with
    | zero =>
      intro x2 k63 x1 x3 h
      exact nomatch (show (none : Option (Int32)) = some res from h)
    | succ n ih =>
      intro x2 k63 x1 x3 h hk63 H locs ls hP hD hS hl
      replace h : B_X3_arrangements_19 x2 no k63 (fuel (fun _ _ => none) (B_X3_arrangements_19 x2 no k63) n) x1 x3 = some res := h
      unfold B_X3_arrangements_19 at h
      refine lv_iload_n hx hb dX3_arrangements_19 rfl (lv_at hl 3 rfl) ?_
      refine lv_aload_n hx hb dX3_arrangements_20 rfl (lv_at hl 0 rfl) ?_
      refine va_get (D := D) (ci := 3) (v := .ref (a 1)) (C := RX3) (T := TX3) (N := 11) hx hb hts i3 hown hK hP 0 rfl rfl 0 (by decide) f10 (fun _ h9 => h9) rfl dX3_arrangements_21 ?_
      refine va_get (D := D) (ci := 2) (v := .int (sPe no)) (C := RX2) (T := TX2) (N := 10) hx hb hts i2 hown hK hP 1 rfl rfl 7 (by decide) f190 (fun _ h9 => h9) rfl dX3_arrangements_24 ?_
      refine lv_icmp_ge (tgt := 63) hx hb dX3_arrangements_27 (by decide) (fun c27 => ?_) (fun c27 => ?_)
      · replace h := fx_ite_t c27 h
        exact hk63 _ h _ _ _ hP hD hS (lv_sub hl [0, 1, 2] rfl)
      · replace h := fx_ite_f c27 h
        refine lv_aload_n hx hb dX3_arrangements_30 rfl (lv_at hl 0 rfl) ?_
        refine va_get (D := D) (ci := 3) (v := .ref (a 1)) (C := RX3) (T := TX3) (N := 11) hx hb hts i3 hown hK hP 0 rfl rfl 0 (by decide) f10 (fun _ h9 => h9) rfl dX3_arrangements_31 ?_
        refine lv_iload_n hx hb dX3_arrangements_34 rfl (lv_at hl 2 rfl) ?_
        refine lv_iload_n hx hb dX3_arrangements_35 rfl (lv_at hl 3 rfl) ?_
        obtain ⟨r36, q36, h⟩ := bnd1_inv h
        refine kVI (n := 2) (As := [.int x2, .int x3]) (rest := []) CF hl hK hP hD hS hA (c_X2_hasBrokenOf l D cI (a 1) (a 2) (a 3) (a 4) (a 5) (a 6) (a 7) (a 8) no x2 x3 r36 q36) gX3_arrangements_X2_hasBrokenOf rfl dX3_arrangements_36 (by decide +kernel) ⟨⟨rfl, rfl⟩, ⟨Nat.le_of_ble_eq_true rfl, Nat.le_of_ble_eq_true rfl⟩, Nat.zero_le _, Nat.zero_le _⟩ (JN.ro [1, 2, 3, 4, 5, 6, 7, 8] rfl rfl) 1 rfl ⟨rfl, rfl⟩ rfl rfl (Nat.le_of_ble_eq_true rfl) (fun H locs hP hD hS => ?_)
        refine lv_if_eq (tgt := 57) hx hb dX3_arrangements_39 (by decide) (fun c39 => ?_) (fun c39 => ?_)
        · replace h := fx_ite_t c39 h
          refine lv_iinc (v := (x3 + 1)) (lv' := [(3, .int (x3 + 1)), (0, .ref (a 0)), (1, .int x1), (2, .int x2)]) hx hb dX3_arrangements_57 hl (k := 3) rfl (by first | rfl | decide) (by decide) rfl (fun ls hl => ?_)
          refine lv_goto (tgt := 19) hx hb dX3_arrangements_60 (by decide) ?_
          exact ih _ _ _ _ h hk63 _ _ _ hP hD hS (lv_sub hl [1, 2, 3, 0] rfl)
        · replace h := fx_ite_f c39 h
          refine lv_aload_n hx hb dX3_arrangements_42 rfl (lv_at hl 0 rfl) ?_
          refine va_get (D := D) (ci := 3) (v := .ref (a 1)) (C := RX3) (T := TX3) (N := 11) hx hb hts i3 hown hK hP 0 rfl rfl 0 (by decide) f10 (fun _ h9 => h9) rfl dX3_arrangements_43 ?_
          refine lv_iload_n hx hb dX3_arrangements_46 rfl (lv_at hl 3 rfl) ?_
          refine lv_iload_n hx hb dX3_arrangements_47 rfl (lv_at hl 2 rfl) ?_
          obtain ⟨r48, q48, h⟩ := bnd1_inv h
          refine kVI (n := 2) (As := [.int x3, .int x2]) (rest := []) CF hl hK hP hD hS hA (c_X2_hasBrokenOf l D cI (a 1) (a 2) (a 3) (a 4) (a 5) (a 6) (a 7) (a 8) no x3 x2 r48 q48) gX3_arrangements_X2_hasBrokenOf rfl dX3_arrangements_48 (by decide +kernel) ⟨⟨rfl, rfl⟩, ⟨Nat.le_of_ble_eq_true rfl, Nat.le_of_ble_eq_true rfl⟩, Nat.zero_le _, Nat.zero_le _⟩ (JN.ro [1, 2, 3, 4, 5, 6, 7, 8] rfl rfl) 1 rfl ⟨rfl, rfl⟩ rfl rfl (Nat.le_of_ble_eq_true rfl) (fun H locs hP hD hS => ?_)
          refine lv_if_eq (tgt := 57) hx hb dX3_arrangements_51 (by decide) (fun c51 => ?_) (fun c51 => ?_)
          · replace h := fx_ite_t c51 h
            refine lv_iinc (v := (x3 + 1)) (lv' := [(3, .int (x3 + 1)), (0, .ref (a 0)), (1, .int x1), (2, .int x2)]) hx hb dX3_arrangements_57 hl (k := 3) rfl (by first | rfl | decide) (by decide) rfl (fun ls hl => ?_)
            refine lv_goto (tgt := 19) hx hb dX3_arrangements_60 (by decide) ?_
            exact ih _ _ _ _ h hk63 _ _ _ hP hD hS (lv_sub hl [1, 2, 3, 0] rfl)
          · replace h := fx_ite_f c51 h
            refine lv_iinc (v := (x1 + 1)) (lv' := [(1, .int (x1 + 1)), (0, .ref (a 0)), (2, .int x2), (3, .int x3)]) hx hb dX3_arrangements_54 hl (k := 1) rfl (by first | rfl | decide) (by decide) rfl (fun ls hl => ?_)
            refine lv_iinc (v := (x3 + 1)) (lv' := [(3, .int (x3 + 1)), (1, .int (x1 + 1)), (0, .ref (a 0)), (2, .int x2)]) hx hb dX3_arrangements_57 hl (k := 3) rfl (by first | rfl | decide) (by decide) rfl (fun ls hl => ?_)
            refine lv_goto (tgt := 19) hx hb dX3_arrangements_60 (by decide) ?_
            exact ih _ _ _ _ h hk63 _ _ _ hP hD hS (lv_sub hl [2, 1, 3, 0] rfl)
  have L4 : ∀ (n : Nat)  (x1 : Int32) (x2 : Int32), fuel (fun _ _ => none) (B_X3_arrangements_4 no) n x1 x2 = some res → 
      ∀ (H : Heap) (locs : List Loc) (ls : Array Slot), va_P D vwCl (cX a cI no mi ke hk sg lz rn rs rf be fh oh) H → va_D A (cX a cI no mi ke hk sg lz rn rs rf be fh oh) → va_S A s.heap H locs → lv_has ls 4 [(0, .ref (a 0)), (1, .int x1), (2, .int x2)] → W p l e { frames := 1, cells := 0, slots := 0, locals := 23 } s m args below meth c H locs 0 0 Q (F0 m 4 ls []) := by
    intro n
    induction n with
    | zero =>
      intro x1 x2 h
      exact nomatch (show (none : Option (Int32)) = some res from h)
    | succ n ih =>
      intro x1 x2 h  H locs ls hP hD hS hl
      replace h : B_X3_arrangements_4 no (fuel (fun _ _ => none) (B_X3_arrangements_4 no) n) x1 x2 = some res := h
      unfold B_X3_arrangements_4 at h
      refine lv_iload_n hx hb dX3_arrangements_4 rfl (lv_at hl 2 rfl) ?_
      refine lv_aload_n hx hb dX3_arrangements_5 rfl (lv_at hl 0 rfl) ?_
      refine va_get (D := D) (ci := 3) (v := .ref (a 1)) (C := RX3) (T := TX3) (N := 11) hx hb hts i3 hown hK hP 0 rfl rfl 0 (by decide) f10 (fun _ h9 => h9) rfl dX3_arrangements_6 ?_
      refine va_get (D := D) (ci := 2) (v := .int (sPe no)) (C := RX2) (T := TX2) (N := 10) hx hb hts i2 hown hK hP 1 rfl rfl 7 (by decide) f190 (fun _ h9 => h9) rfl dX3_arrangements_9 ?_
      refine lv_icmp_ge (tgt := 69) hx hb dX3_arrangements_12 (by decide) (fun c12 => ?_) (fun c12 => ?_)
      · replace h := fx_ite_t c12 h
        refine lv_iload_n hx hb dX3_arrangements_69 rfl (lv_at hl 1 rfl) ?_
        obtain rfl := ret1 h
        exact rI hQ hx hb hr hlocks hAe hP hS rfl rfl dX3_arrangements_70
      · replace h := fx_ite_f c12 h
        refine lv_iload_n hx hb dX3_arrangements_15 rfl (lv_at hl 2 rfl) ?_
        refine lv_iconst (v := 1) hx hb dX3_arrangements_16 (by decide) ?_
        refine lv_iadd hx hb dX3_arrangements_17 ?_
        refine lv_istore_n (lv' := [(3, .int (x2 + (1 : Int32))), (0, .ref (a 0)), (1, .int x1), (2, .int x2)]) hx hb dX3_arrangements_18 rfl hl (by decide) rfl (fun ls hl => ?_)
        refine L19 FU _ _ _ _ h (fun x1 h H locs ls hP hD hS hl => ?_) _ _ _ hP hD hS (lv_sub hl [1, 2, 3, 0] rfl)
        refine lv_iinc (v := (x2 + 1)) (lv' := [(2, .int (x2 + 1)), (0, .ref (a 0)), (1, .int x1)]) hx hb dX3_arrangements_63 hl (k := 2) rfl (by first | rfl | decide) (by decide) rfl (fun ls hl => ?_)
        refine lv_goto (tgt := 4) hx hb dX3_arrangements_66 (by decide) ?_
        exact ih _ _ h  _ _ _ hP hD hS (lv_sub hl [1, 2, 0] rfl)
  unfold M_X3_arrangements at h
  refine lv_iconst (v := 0) hx hb dX3_arrangements_0 (by decide) ?_
  refine lv_istore_n (lv' := [(1, .int (0 : Int32)), (0, .ref (a 0))]) hx hb dX3_arrangements_1 rfl hl (by decide) rfl (fun ls hl => ?_)
  refine lv_iconst (v := 0) hx hb dX3_arrangements_2 (by decide) ?_
  refine lv_istore_n (lv' := [(2, .int (0 : Int32)), (1, .int (0 : Int32)), (0, .ref (a 0))]) hx hb dX3_arrangements_3 rfl hl (by decide) rfl (fun ls hl => ?_)
  exact L4 FU _ _ h  _ _ _ hP hD hS (lv_sub hl [2, 1, 0] rfl)
/-! X3_guilty -/
set_option maxHeartbeats 4000000 in
set_option maxRecDepth 100000 in
theorem c_X3_guilty (l : Launch) (D : va_G) (cI : ClassId) (a : Nat → Nat) (no : SV) (mi : SV) (ke : SV) (hk : Int32) (sg : (Nat → Int32)) (lz : Int32) (rn : (Nat → Int32)) (rs : Int32) (rf : (Nat → Int32)) (be : (Nat → Int32)) (fh : (Nat → Int32)) (oh : (Nat → Int32))  (res : Int32) (h : M_X3_guilty no = some res) : mI l yX3_guilty wsX3_guilty { frames := 1, cells := 0, slots := 0, locals := 23 } D cI [.ref (a 0)] (cX a cI no mi ke hk sg lz rn rs rf be fh oh) (cX a cI no mi ke hk sg lz rn rs rf be fh oh) res := by
  intro sz
  refine mStart (cc := cX3_guilty) (maxL := 4) (ret := (some .int)) (own := RX3) (by decide) rfl rfl (Nat.le_of_ble_eq_true rfl) (lv := [(0, .ref (a 0))]) rfl ?_
  intro p e s m args below meth c A ls Q H locs CF hr hlocks hK hP hD hS hA hAe hl hQ
  obtain ⟨hx, hb, hml, hown, hts⟩ := id CF
  have f10 := hts (.fieldLink RX3 10 "MendAnothersBreaking" "now" "LMendAnothersBreaking$State;") (List.mem_of_getElem? (i := 1) rfl)
  have f190 := hts (.fieldLink RX3 190 "MendAnothersBreaking$State" "people" "I") (List.mem_of_getElem? (i := 2) rfl)
  have i2 : ∀ w ∈ wsX20, w ∈ wsX3_guilty := fun w h => List.mem_cons_of_mem _ (List.mem_append_right _ h)
  have i3 : ∀ w ∈ wsX30, w ∈ wsX3_guilty := fun w h => List.mem_cons_of_mem _ (List.mem_append_left _ (List.mem_append_right _ h))
  have L7 : ∀ (n : Nat)  (x1 : Int32) (x2 : Int32) (x3 : Int32), fuel (fun _ _ _ => none) (B_X3_guilty_7 no) n x1 x2 x3 = some res → 
      ∀ (H : Heap) (locs : List Loc) (ls : Array Slot), va_P D vwCl (cX a cI no mi ke hk sg lz rn rs rf be fh oh) H → va_D A (cX a cI no mi ke hk sg lz rn rs rf be fh oh) → va_S A s.heap H locs → lv_has ls 4 [(0, .ref (a 0)), (1, .int x1), (2, .int x2), (3, .int x3)] → W p l e { frames := 1, cells := 0, slots := 0, locals := 23 } s m args below meth c H locs 0 0 Q (F0 m 7 ls []) := by
    intro n
    induction n with
    | zero =>
      intro x1 x2 x3 h
      exact nomatch (show (none : Option (Int32)) = some res from h)
    | succ n ih =>
      intro x1 x2 x3 h  H locs ls hP hD hS hl
      replace h : B_X3_guilty_7 no (fuel (fun _ _ _ => none) (B_X3_guilty_7 no) n) x1 x2 x3 = some res := h
      unfold B_X3_guilty_7 at h
      refine lv_iload_n hx hb dX3_guilty_7 rfl (lv_at hl 3 rfl) ?_
      refine lv_aload_n hx hb dX3_guilty_8 rfl (lv_at hl 0 rfl) ?_
      refine va_get (D := D) (ci := 3) (v := .ref (a 1)) (C := RX3) (T := TX3) (N := 11) hx hb hts i3 hown hK hP 0 rfl rfl 0 (by decide) f10 (fun _ h9 => h9) rfl dX3_guilty_9 ?_
      refine va_get (D := D) (ci := 2) (v := .int (sPe no)) (C := RX2) (T := TX2) (N := 10) hx hb hts i2 hown hK hP 1 rfl rfl 7 (by decide) f190 (fun _ h9 => h9) rfl dX3_guilty_12 ?_
      refine lv_icmp_ge (tgt := 47) hx hb dX3_guilty_15 (by decide) (fun c15 => ?_) (fun c15 => ?_)
      · replace h := fx_ite_t c15 h
        refine lv_iload_n hx hb dX3_guilty_47 rfl (lv_at hl 1 rfl) ?_
        obtain rfl := ret1 h
        exact rI hQ hx hb hr hlocks hAe hP hS rfl rfl dX3_guilty_48
      · replace h := fx_ite_f c15 h
        refine lv_aload_n hx hb dX3_guilty_18 rfl (lv_at hl 0 rfl) ?_
        refine va_get (D := D) (ci := 3) (v := .ref (a 1)) (C := RX3) (T := TX3) (N := 11) hx hb hts i3 hown hK hP 0 rfl rfl 0 (by decide) f10 (fun _ h9 => h9) rfl dX3_guilty_19 ?_
        refine lv_iload_n hx hb dX3_guilty_22 rfl (lv_at hl 3 rfl) ?_
        obtain ⟨r23, q23, h⟩ := bnd1_inv h
        refine kVI (n := 1) (As := [.int x3]) (rest := []) CF hl hK hP hD hS hA (c_X2_brokenBy l D cI (a 1) (a 2) (a 3) (a 4) (a 5) (a 6) (a 7) (a 8) no x3 r23 q23) gX3_guilty_X2_brokenBy rfl dX3_guilty_23 (by decide +kernel) ⟨⟨rfl, rfl⟩, ⟨Nat.le_of_ble_eq_true rfl, Nat.le_of_ble_eq_true rfl⟩, Nat.zero_le _, Nat.zero_le _⟩ (JN.ro [1, 2, 3, 4, 5, 6, 7, 8] rfl rfl) 1 rfl ⟨rfl, rfl⟩ rfl rfl (Nat.le_of_ble_eq_true rfl) (fun H locs hP hD hS => ?_)
        refine lv_iload_n hx hb dX3_guilty_26 rfl (lv_at hl 2 rfl) ?_
        refine lv_icmp_le (tgt := 41) hx hb dX3_guilty_27 (by decide) (fun c27 => ?_) (fun c27 => ?_)
        · replace h := fx_ite_t c27 h
          refine lv_iinc (v := (x3 + 1)) (lv' := [(3, .int (x3 + 1)), (0, .ref (a 0)), (1, .int x1), (2, .int x2)]) hx hb dX3_guilty_41 hl (k := 3) rfl (by first | rfl | decide) (by decide) rfl (fun ls hl => ?_)
          refine lv_goto (tgt := 7) hx hb dX3_guilty_44 (by decide) ?_
          exact ih _ _ _ h  _ _ _ hP hD hS (lv_sub hl [1, 2, 3, 0] rfl)
        · replace h := fx_ite_f c27 h
          refine lv_aload_n hx hb dX3_guilty_30 rfl (lv_at hl 0 rfl) ?_
          refine va_get (D := D) (ci := 3) (v := .ref (a 1)) (C := RX3) (T := TX3) (N := 11) hx hb hts i3 hown hK hP 0 rfl rfl 0 (by decide) f10 (fun _ h9 => h9) rfl dX3_guilty_31 ?_
          refine lv_iload_n hx hb dX3_guilty_34 rfl (lv_at hl 3 rfl) ?_
          obtain ⟨r35, q35, h⟩ := bnd1_inv h
          refine kVI (n := 1) (As := [.int x3]) (rest := []) CF hl hK hP hD hS hA (c_X2_brokenBy l D cI (a 1) (a 2) (a 3) (a 4) (a 5) (a 6) (a 7) (a 8) no x3 r35 q35) gX3_guilty_X2_brokenBy rfl dX3_guilty_35 (by decide +kernel) ⟨⟨rfl, rfl⟩, ⟨Nat.le_of_ble_eq_true rfl, Nat.le_of_ble_eq_true rfl⟩, Nat.zero_le _, Nat.zero_le _⟩ (JN.ro [1, 2, 3, 4, 5, 6, 7, 8] rfl rfl) 1 rfl ⟨rfl, rfl⟩ rfl rfl (Nat.le_of_ble_eq_true rfl) (fun H locs hP hD hS => ?_)
          refine lv_istore_n (lv' := [(2, .int r35), (0, .ref (a 0)), (1, .int x1), (3, .int x3)]) hx hb dX3_guilty_38 rfl hl (by decide) rfl (fun ls hl => ?_)
          refine lv_iload_n hx hb dX3_guilty_39 rfl (lv_at hl 3 rfl) ?_
          refine lv_istore_n (lv' := [(1, .int x3), (2, .int r35), (0, .ref (a 0)), (3, .int x3)]) hx hb dX3_guilty_40 rfl hl (by decide) rfl (fun ls hl => ?_)
          refine lv_iinc (v := (x3 + 1)) (lv' := [(3, .int (x3 + 1)), (1, .int x3), (2, .int r35), (0, .ref (a 0))]) hx hb dX3_guilty_41 hl (k := 3) rfl (by first | rfl | decide) (by decide) rfl (fun ls hl => ?_)
          refine lv_goto (tgt := 7) hx hb dX3_guilty_44 (by decide) ?_
          exact ih _ _ _ h  _ _ _ hP hD hS (lv_sub hl [3, 1, 2, 0] rfl)
  unfold M_X3_guilty at h
  refine lv_bipush (v := (-9)) hx hb dX3_guilty_0 (by decide) ?_
  refine lv_istore_n (lv' := [(1, .int (-9 : Int32)), (0, .ref (a 0))]) hx hb dX3_guilty_2 rfl hl (by decide) rfl (fun ls hl => ?_)
  refine lv_iconst (v := 0) hx hb dX3_guilty_3 (by decide) ?_
  refine lv_istore_n (lv' := [(2, .int (0 : Int32)), (1, .int (-9 : Int32)), (0, .ref (a 0))]) hx hb dX3_guilty_4 rfl hl (by decide) rfl (fun ls hl => ?_)
  refine lv_iconst (v := 0) hx hb dX3_guilty_5 (by decide) ?_
  refine lv_istore_n (lv' := [(3, .int (0 : Int32)), (2, .int (0 : Int32)), (1, .int (-9 : Int32)), (0, .ref (a 0))]) hx hb dX3_guilty_6 rfl hl (by decide) rfl (fun ls hl => ?_)
  exact L7 FU _ _ _ h  _ _ _ hP hD hS (lv_sub hl [3, 2, 1, 0] rfl)
/-! X3_richest -/
set_option maxHeartbeats 4000000 in
set_option maxRecDepth 100000 in
theorem c_X3_richest (l : Launch) (D : va_G) (cI : ClassId) (a : Nat → Nat) (no : SV) (mi : SV) (ke : SV) (hk : Int32) (sg : (Nat → Int32)) (lz : Int32) (rn : (Nat → Int32)) (rs : Int32) (rf : (Nat → Int32)) (be : (Nat → Int32)) (fh : (Nat → Int32)) (oh : (Nat → Int32))  (res : Int32) (h : M_X3_richest no = some res) : mI l yX3_richest wsX3_richest { frames := 2, cells := 0, slots := 0, locals := 44 } D cI [.ref (a 0)] (cX a cI no mi ke hk sg lz rn rs rf be fh oh) (cX a cI no mi ke hk sg lz rn rs rf be fh oh) res := by
  intro sz
  refine mStart (cc := cX3_richest) (maxL := 4) (ret := (some .int)) (own := RX3) (by decide) rfl rfl (Nat.le_of_ble_eq_true rfl) (lv := [(0, .ref (a 0))]) rfl ?_
  intro p e s m args below meth c A ls Q H locs CF hr hlocks hK hP hD hS hA hAe hl hQ
  obtain ⟨hx, hb, hml, hown, hts⟩ := id CF
  have f10 := hts (.fieldLink RX3 10 "MendAnothersBreaking" "now" "LMendAnothersBreaking$State;") (List.mem_of_getElem? (i := 1) rfl)
  have f190 := hts (.fieldLink RX3 190 "MendAnothersBreaking$State" "people" "I") (List.mem_of_getElem? (i := 2) rfl)
  have i2 : ∀ w ∈ wsX20, w ∈ wsX3_richest := fun w h => List.mem_cons_of_mem _ (List.mem_append_right _ h)
  have i3 : ∀ w ∈ wsX30, w ∈ wsX3_richest := fun w h => List.mem_cons_of_mem _ (List.mem_append_left _ (List.mem_append_right _ h))
  have L7 : ∀ (n : Nat)  (x1 : Int32) (x2 : Int32) (x3 : Int32), fuel (fun _ _ _ => none) (B_X3_richest_7 no) n x1 x2 x3 = some res → 
      ∀ (H : Heap) (locs : List Loc) (ls : Array Slot), va_P D vwCl (cX a cI no mi ke hk sg lz rn rs rf be fh oh) H → va_D A (cX a cI no mi ke hk sg lz rn rs rf be fh oh) → va_S A s.heap H locs → lv_has ls 4 [(0, .ref (a 0)), (1, .int x1), (2, .int x2), (3, .int x3)] → W p l e { frames := 2, cells := 0, slots := 0, locals := 44 } s m args below meth c H locs 0 0 Q (F0 m 7 ls []) := by
    intro n
    induction n with
    | zero =>
      intro x1 x2 x3 h
      exact nomatch (show (none : Option (Int32)) = some res from h)
    | succ n ih =>
      intro x1 x2 x3 h  H locs ls hP hD hS hl
      replace h : B_X3_richest_7 no (fuel (fun _ _ _ => none) (B_X3_richest_7 no) n) x1 x2 x3 = some res := h
      unfold B_X3_richest_7 at h
      refine lv_iload_n hx hb dX3_richest_7 rfl (lv_at hl 3 rfl) ?_
      refine lv_aload_n hx hb dX3_richest_8 rfl (lv_at hl 0 rfl) ?_
      refine va_get (D := D) (ci := 3) (v := .ref (a 1)) (C := RX3) (T := TX3) (N := 11) hx hb hts i3 hown hK hP 0 rfl rfl 0 (by decide) f10 (fun _ h9 => h9) rfl dX3_richest_9 ?_
      refine va_get (D := D) (ci := 2) (v := .int (sPe no)) (C := RX2) (T := TX2) (N := 10) hx hb hts i2 hown hK hP 1 rfl rfl 7 (by decide) f190 (fun _ h9 => h9) rfl dX3_richest_12 ?_
      refine lv_icmp_ge (tgt := 47) hx hb dX3_richest_15 (by decide) (fun c15 => ?_) (fun c15 => ?_)
      · replace h := fx_ite_t c15 h
        refine lv_iload_n hx hb dX3_richest_47 rfl (lv_at hl 1 rfl) ?_
        obtain rfl := ret1 h
        exact rI hQ hx hb hr hlocks hAe hP hS rfl rfl dX3_richest_48
      · replace h := fx_ite_f c15 h
        refine lv_aload_n hx hb dX3_richest_18 rfl (lv_at hl 0 rfl) ?_
        refine va_get (D := D) (ci := 3) (v := .ref (a 1)) (C := RX3) (T := TX3) (N := 11) hx hb hts i3 hown hK hP 0 rfl rfl 0 (by decide) f10 (fun _ h9 => h9) rfl dX3_richest_19 ?_
        refine lv_iload_n hx hb dX3_richest_22 rfl (lv_at hl 3 rfl) ?_
        obtain ⟨r23, q23, h⟩ := bnd1_inv h
        refine kVI (n := 1) (As := [.int x3]) (rest := []) CF hl hK hP hD hS hA (c_X2_riches l D cI (a 1) (a 2) (a 3) (a 4) (a 5) (a 6) (a 7) (a 8) no x3 r23 q23) gX3_richest_X2_riches rfl dX3_richest_23 (by decide +kernel) ⟨⟨rfl, rfl⟩, ⟨Nat.le_of_ble_eq_true rfl, Nat.le_of_ble_eq_true rfl⟩, Nat.zero_le _, Nat.zero_le _⟩ (JN.ro [1, 2, 3, 4, 5, 6, 7, 8] rfl rfl) 1 rfl ⟨rfl, rfl⟩ rfl rfl (Nat.le_of_ble_eq_true rfl) (fun H locs hP hD hS => ?_)
        refine lv_iload_n hx hb dX3_richest_26 rfl (lv_at hl 2 rfl) ?_
        refine lv_icmp_le (tgt := 41) hx hb dX3_richest_27 (by decide) (fun c27 => ?_) (fun c27 => ?_)
        · replace h := fx_ite_t c27 h
          refine lv_iinc (v := (x3 + 1)) (lv' := [(3, .int (x3 + 1)), (0, .ref (a 0)), (1, .int x1), (2, .int x2)]) hx hb dX3_richest_41 hl (k := 3) rfl (by first | rfl | decide) (by decide) rfl (fun ls hl => ?_)
          refine lv_goto (tgt := 7) hx hb dX3_richest_44 (by decide) ?_
          exact ih _ _ _ h  _ _ _ hP hD hS (lv_sub hl [1, 2, 3, 0] rfl)
        · replace h := fx_ite_f c27 h
          refine lv_aload_n hx hb dX3_richest_30 rfl (lv_at hl 0 rfl) ?_
          refine va_get (D := D) (ci := 3) (v := .ref (a 1)) (C := RX3) (T := TX3) (N := 11) hx hb hts i3 hown hK hP 0 rfl rfl 0 (by decide) f10 (fun _ h9 => h9) rfl dX3_richest_31 ?_
          refine lv_iload_n hx hb dX3_richest_34 rfl (lv_at hl 3 rfl) ?_
          obtain ⟨r35, q35, h⟩ := bnd1_inv h
          refine kVI (n := 1) (As := [.int x3]) (rest := []) CF hl hK hP hD hS hA (c_X2_riches l D cI (a 1) (a 2) (a 3) (a 4) (a 5) (a 6) (a 7) (a 8) no x3 r35 q35) gX3_richest_X2_riches rfl dX3_richest_35 (by decide +kernel) ⟨⟨rfl, rfl⟩, ⟨Nat.le_of_ble_eq_true rfl, Nat.le_of_ble_eq_true rfl⟩, Nat.zero_le _, Nat.zero_le _⟩ (JN.ro [1, 2, 3, 4, 5, 6, 7, 8] rfl rfl) 1 rfl ⟨rfl, rfl⟩ rfl rfl (Nat.le_of_ble_eq_true rfl) (fun H locs hP hD hS => ?_)
          refine lv_istore_n (lv' := [(2, .int r35), (0, .ref (a 0)), (1, .int x1), (3, .int x3)]) hx hb dX3_richest_38 rfl hl (by decide) rfl (fun ls hl => ?_)
          refine lv_iload_n hx hb dX3_richest_39 rfl (lv_at hl 3 rfl) ?_
          refine lv_istore_n (lv' := [(1, .int x3), (2, .int r35), (0, .ref (a 0)), (3, .int x3)]) hx hb dX3_richest_40 rfl hl (by decide) rfl (fun ls hl => ?_)
          refine lv_iinc (v := (x3 + 1)) (lv' := [(3, .int (x3 + 1)), (1, .int x3), (2, .int r35), (0, .ref (a 0))]) hx hb dX3_richest_41 hl (k := 3) rfl (by first | rfl | decide) (by decide) rfl (fun ls hl => ?_)
          refine lv_goto (tgt := 7) hx hb dX3_richest_44 (by decide) ?_
          exact ih _ _ _ h  _ _ _ hP hD hS (lv_sub hl [3, 1, 2, 0] rfl)
  unfold M_X3_richest at h
  refine lv_bipush (v := (-9)) hx hb dX3_richest_0 (by decide) ?_
  refine lv_istore_n (lv' := [(1, .int (-9 : Int32)), (0, .ref (a 0))]) hx hb dX3_richest_2 rfl hl (by decide) rfl (fun ls hl => ?_)
  refine lv_iconst (v := (-1)) hx hb dX3_richest_3 (by decide) ?_
  refine lv_istore_n (lv' := [(2, .int (-1 : Int32)), (1, .int (-9 : Int32)), (0, .ref (a 0))]) hx hb dX3_richest_4 rfl hl (by decide) rfl (fun ls hl => ?_)
  refine lv_iconst (v := 0) hx hb dX3_richest_5 (by decide) ?_
  refine lv_istore_n (lv' := [(3, .int (0 : Int32)), (2, .int (-1 : Int32)), (1, .int (-9 : Int32)), (0, .ref (a 0))]) hx hb dX3_richest_6 rfl hl (by decide) rfl (fun ls hl => ?_)
  exact L7 FU _ _ _ h  _ _ _ hP hD hS (lv_sub hl [3, 2, 1, 0] rfl)
/-! X3_arranged -/
set_option maxHeartbeats 4000000 in
set_option maxRecDepth 100000 in
theorem c_X3_arranged (l : Launch) (D : va_G) (cI : ClassId) (a : Nat → Nat) (no : SV) (mi : SV) (ke : SV) (hk : Int32) (sg : (Nat → Int32)) (lz : Int32) (rn : (Nat → Int32)) (rs : Int32) (rf : (Nat → Int32)) (be : (Nat → Int32)) (fh : (Nat → Int32)) (oh : (Nat → Int32)) (p1 : Int32) (res : Int32) (u_rf : (Nat → Int32)) (h : M_X3_arranged no rf p1 = some (res, u_rf)) : mI l yX3_arranged wsX3_arranged { frames := 3, cells := 0, slots := 0, locals := 67 } D cI [.ref (a 0), .int p1] (cX a cI no mi ke hk sg lz rn rs rf be fh oh) (cX a cI no mi ke hk sg lz rn rs u_rf be fh oh) res := by
  intro sz
  refine mStart (cc := cX3_arranged) (maxL := 2) (ret := (some .int)) (own := RX3) (by decide) rfl rfl (Nat.le_of_ble_eq_true rfl) (lv := [(0, .ref (a 0)), (1, .int p1)]) rfl ?_
  intro p e s m args below meth c A ls Q H locs CF hr hlocks hK hP hD hS hA hAe hl hQ
  obtain ⟨hx, hb, hml, hown, hts⟩ := id CF
  unfold M_X3_arranged at h
  refine lv_iload_n hx hb dX3_arranged_0 rfl (lv_at hl 1 rfl) ?_
  by_cases s1_0 : p1 = 0
  · replace h := fx_ite_t s1_0 h
    refine lv_tableIn (tgt := 28) hx hb dX3_arranged_1 (by rw [s1_0]; decide) (by rw [s1_0]; decide) (off := 27) (by rw [s1_0]; rfl) (by decide) ?_
    refine lv_aload_n hx hb dX3_arranged_28 rfl (lv_at hl 0 rfl) ?_
    obtain ⟨r29, q29, h⟩ := bnd1_inv h
    refine kVI (n := 0) (As := []) (rest := []) CF hl hK hP hD hS hA (c_X3_arrangements l D cI a no mi ke hk sg lz rn rs rf be fh oh  r29 q29) gX3_arranged_X3_arrangements rfl dX3_arranged_29 (by decide +kernel) ⟨⟨rfl, rfl⟩, ⟨Nat.le_of_ble_eq_true rfl, Nat.le_of_ble_eq_true rfl⟩, Nat.zero_le _, Nat.zero_le _⟩ (JN.whole rfl) 0 rfl ⟨rfl, rfl⟩ rfl rfl (Nat.le_of_ble_eq_true rfl) (fun H locs hP hD hS => ?_)
    replace hP : va_P D vwCl (cX a cI no mi ke hk sg lz rn rs rf be fh oh) H := hP
    replace hD : va_D A (cX a cI no mi ke hk sg lz rn rs rf be fh oh) := hD
    obtain ⟨rfl, rfl⟩ := ret2 h
    exact rI hQ hx hb hr hlocks hAe hP hS rfl rfl dX3_arranged_32
  replace h := fx_ite_f s1_0 h
  by_cases s1_1 : p1 = 1
  · replace h := fx_ite_t s1_1 h
    refine lv_tableIn (tgt := 33) hx hb dX3_arranged_1 (by rw [s1_1]; decide) (by rw [s1_1]; decide) (off := 32) (by rw [s1_1]; rfl) (by decide) ?_
    refine lv_aload_n hx hb dX3_arranged_33 rfl (lv_at hl 0 rfl) ?_
    obtain ⟨r34, q34, h⟩ := bnd1_inv h
    refine kVI (n := 0) (As := []) (rest := []) CF hl hK hP hD hS hA (c_X3_guilty l D cI a no mi ke hk sg lz rn rs rf be fh oh  r34 q34) gX3_arranged_X3_guilty rfl dX3_arranged_34 (by decide +kernel) ⟨⟨rfl, rfl⟩, ⟨Nat.le_of_ble_eq_true rfl, Nat.le_of_ble_eq_true rfl⟩, Nat.zero_le _, Nat.zero_le _⟩ (JN.whole rfl) 0 rfl ⟨rfl, rfl⟩ rfl rfl (Nat.le_of_ble_eq_true rfl) (fun H locs hP hD hS => ?_)
    replace hP : va_P D vwCl (cX a cI no mi ke hk sg lz rn rs rf be fh oh) H := hP
    replace hD : va_D A (cX a cI no mi ke hk sg lz rn rs rf be fh oh) := hD
    obtain ⟨rfl, rfl⟩ := ret2 h
    exact rI hQ hx hb hr hlocks hAe hP hS rfl rfl dX3_arranged_37
  replace h := fx_ite_f s1_1 h
  by_cases s1_2 : p1 = 2
  · replace h := fx_ite_t s1_2 h
    refine lv_tableIn (tgt := 38) hx hb dX3_arranged_1 (by rw [s1_2]; decide) (by rw [s1_2]; decide) (off := 37) (by rw [s1_2]; rfl) (by decide) ?_
    refine lv_aload_n hx hb dX3_arranged_38 rfl (lv_at hl 0 rfl) ?_
    obtain ⟨r39, q39, h⟩ := bnd1_inv h
    refine kVI (n := 0) (As := []) (rest := []) CF hl hK hP hD hS hA (c_X3_richest l D cI a no mi ke hk sg lz rn rs rf be fh oh  r39 q39) gX3_arranged_X3_richest rfl dX3_arranged_39 (by decide +kernel) ⟨⟨rfl, rfl⟩, ⟨Nat.le_of_ble_eq_true rfl, Nat.le_of_ble_eq_true rfl⟩, Nat.zero_le _, Nat.zero_le _⟩ (JN.whole rfl) 0 rfl ⟨rfl, rfl⟩ rfl rfl (Nat.le_of_ble_eq_true rfl) (fun H locs hP hD hS => ?_)
    replace hP : va_P D vwCl (cX a cI no mi ke hk sg lz rn rs rf be fh oh) H := hP
    replace hD : va_D A (cX a cI no mi ke hk sg lz rn rs rf be fh oh) := hD
    obtain ⟨rfl, rfl⟩ := ret2 h
    exact rI hQ hx hb hr hlocks hAe hP hS rfl rfl dX3_arranged_42
  replace h := fx_ite_f s1_2 h
  refine lv_tableOut (tgt := 43) hx hb dX3_arranged_1 (by have a_s1_0 : Int32.toInt p1 ≠ 0 := fx_toInt_ne s1_0; have a_s1_1 : Int32.toInt p1 ≠ 1 := fx_toInt_ne s1_1; have a_s1_2 : Int32.toInt p1 ≠ 2 := fx_toInt_ne s1_2; omega) (by decide) ?_
  refine lv_aload_n hx hb dX3_arranged_43 rfl (lv_at hl 0 rfl) ?_
  refine lv_bipush (v := (-2)) hx hb dX3_arranged_44 (by decide) ?_
  obtain ⟨r46, u46_rf, q46, h⟩ := bnd2_inv h
  refine kVI (n := 1) (As := [.int (-2 : Int32)]) (rest := []) CF hl hK hP hD hS hA (c_X3_refuse l D cI a no mi ke hk sg lz rn rs rf be fh oh (-2 : Int32) r46 u46_rf q46) gX3_arranged_X3_refuse rfl dX3_arranged_46 (by decide +kernel) ⟨⟨rfl, rfl⟩, ⟨Nat.le_of_ble_eq_true rfl, Nat.le_of_ble_eq_true rfl⟩, Nat.zero_le _, Nat.zero_le _⟩ (JN.whole (w1 := (cX a cI no mi ke hk sg lz rn rs u46_rf be fh oh)) rfl) 0 rfl ⟨rfl, rfl⟩ rfl rfl (Nat.le_of_ble_eq_true rfl) (fun H locs hP hD hS => ?_)
  replace hP : va_P D vwCl (cX a cI no mi ke hk sg lz rn rs u46_rf be fh oh) H := hP
  replace hD : va_D A (cX a cI no mi ke hk sg lz rn rs u46_rf be fh oh) := hD
  obtain ⟨rfl, rfl⟩ := ret2 h
  exact rI hQ hx hb hr hlocks hAe hP hS rfl rfl dX3_arranged_49
