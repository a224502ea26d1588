/-! X4_person -/
set_option maxHeartbeats 4000000 in
set_option maxRecDepth 100000 in
theorem c_X4_person (l : Launch) (D : va_G) (cI : ClassId) (a : Nat → Nat) (ss : (Nat → Int32)) (mm : (Nat → Int32)) (im : (Nat → Int32)) (wa : (Nat → Int32)) (hi : Int32) (le : (Nat → Int32)) (ro : (Nat → Int32)) (re : (Nat → Int32)) (lm : Int32) (rm : Int32) (pl : Int32) (nu : (Nat → Int32)) (gi : (Nat → Int32)) (bg : (Nat → Int32)) (bm : Int32) (sd : Int32) (p1 : Int32) (p2 : Int32) (res : Int32) (u_re : (Nat → Int32)) (h : M_X4_person ss re p1 p2 = some (res, u_re)) : mI l yX4_person wsX4_person { frames := 2, cells := 0, slots := 0, locals := 43 } D cI [.ref (a 0), .int p1, .int p2] (cM a cI ss mm im wa hi le ro re lm rm pl nu gi bg bm sd) (cM a cI ss mm im wa hi le ro u_re lm rm pl nu gi bg bm sd) res := by
  intro sz
  refine mStart (cc := cX4_person) (maxL := 5) (ret := (some .int)) (own := RX4) (by decide) rfl rfl (Nat.le_of_ble_eq_true rfl) (lv := [(0, .ref (a 0)), (1, .int p1), (2, .int p2)]) rfl ?_
  intro p e s m args below meth c A ls Q H locs CF hr hlocks hK hP hD hS hA hAe hl hQ
  obtain ⟨hx, hb, hml, hown, hts⟩ := id CF
  have f9 := hts (.fieldLink RX4 9 "MendAnothersBreakingModel" "s" "[I") (List.mem_of_getElem? (i := 1) rfl)
  have i4 : ∀ w ∈ wsX40, w ∈ wsX4_person := fun w h => List.mem_cons_of_mem _ (List.mem_append_right _ h)
  have L56 : ∀ (n : Nat) (x1 : Int32) (x2 : Int32) (re : (Nat → Int32)) (x3 : Int32) (x4 : Int32), fuel (fun _ _ => none) (B_X4_person_56 x1 x2 ss re) n x3 x4 = some (res, u_re) → 
      ∀ (H : Heap) (locs : List Loc) (ls : Array Slot), va_P D vwCl (cM a cI ss mm im wa hi le ro re lm rm pl nu gi bg bm sd) H → va_D A (cM a cI ss mm im wa hi le ro re lm rm pl nu gi bg bm sd) → va_S A s.heap H locs → lv_has ls 5 [(0, .ref (a 0)), (1, .int x1), (2, .int x2), (3, .int x3), (4, .int x4)] → W p l e { frames := 2, cells := 0, slots := 0, locals := 43 } s m args below meth c H locs 0 0 Q (F0 m 56 ls []) := by
    intro n
    induction n with
    | zero =>
      intro x1 x2 re x3 x4 h
      exact nomatch (show (none : Option (Int32 × (Nat → Int32))) = some (res, u_re) from h)
    | succ n ih =>
      intro x1 x2 re x3 x4 h  H locs ls hP hD hS hl
      replace h : B_X4_person_56 x1 x2 ss re (fuel (fun _ _ => none) (B_X4_person_56 x1 x2 ss re) n) x3 x4 = some (res, u_re) := h
      unfold B_X4_person_56 at h
      refine lv_iload hx hb dX4_person_56 (lv_at hl 4 rfl) ?_
      refine lv_aload_n hx hb dX4_person_58 rfl (lv_at hl 0 rfl) ?_
      refine va_get (D := D) (ci := 4) (v := .ref (a 1)) (C := RX4) (T := TX4) (N := 16) hx hb hts i4 hown hK hP 0 rfl rfl 0 (by decide) f9 (fun _ h9 => h9) rfl dX4_person_59 ?_
      refine lv_iconst (v := 1) hx hb dX4_person_62 (by decide) ?_
      refine ald (n := 61) (f := ss) (k := 1) hx hb hK hP 1 0 rfl rfl (fx_lit rfl) rfl dX4_person_63 ?_
      refine lv_icmp_ge (tgt := 106) hx hb dX4_person_64 (by decide) (fun c64 => ?_) (fun c64 => ?_)
      · replace h := fx_ite_t c64 h
        refine lv_iload_n hx hb dX4_person_106 rfl (lv_at hl 3 rfl) ?_
        obtain ⟨rfl, rfl⟩ := rtv2 h
        exact rI hQ hx hb hr hlocks hAe hP hS rfl rfl dX4_person_107
      · replace h := fx_ite_f c64 h
        refine lv_iload_n hx hb dX4_person_67 rfl (lv_at hl 3 rfl) ?_
        refine lv_aload_n hx hb dX4_person_68 rfl (lv_at hl 0 rfl) ?_
        refine va_get (D := D) (ci := 4) (v := .ref (a 1)) (C := RX4) (T := TX4) (N := 16) hx hb hts i4 hown hK hP 0 rfl rfl 0 (by decide) f9 (fun _ h9 => h9) rfl dX4_person_69 ?_
        refine lv_iload hx hb dX4_person_72 (lv_at hl 4 rfl) ?_
        obtain ⟨r74, q74, h⟩ := bnd1_inv h
        refine kSI (n := 1) (As := [.int x4]) (rest := [.ref (a 1), .int x3]) CF hl hK hP hD hS hA (c_X4_ofT l D cI   x4 r74 q74) gX4_person_X4_ofT rfl dX4_person_74 (by decide +kernel) ⟨⟨rfl, rfl⟩, ⟨Nat.le_of_ble_eq_true rfl, Nat.le_of_ble_eq_true rfl⟩, Nat.zero_le _, Nat.zero_le _⟩ (JN.ro [] rfl rfl) rfl rfl (Nat.le_of_ble_eq_true rfl) (fun H locs hP hD hS => ?_)
        refine lv_iload_n hx hb dX4_person_77 rfl (lv_at hl 2 rfl) ?_
        refine lv_iconst (v := 2) hx hb dX4_person_78 (by decide) ?_
        refine lv_icmp_ne (tgt := 86) hx hb dX4_person_79 (by decide) (fun c79 => ?_) (fun c79 => ?_)
        · replace h := fx_ite_f c79 h
          refine lv_iconst (v := 4) hx hb dX4_person_86 (by decide) ?_
          refine lv_iadd hx hb dX4_person_87 ?_
          obtain ⟨g88, h⟩ := chk_inv h
          refine va_iald (n := 61) (f := ss) hx hb hK hP 1 0 rfl rfl g88 dX4_person_88 ?_
          refine lv_iload_n hx hb dX4_person_89 rfl (lv_at hl 1 rfl) ?_
          refine lv_icmp_ne (tgt := 97) hx hb dX4_person_90 (by decide) (fun c90 => ?_) (fun c90 => ?_)
          · replace h := fx_ite_f c90 h
            refine lv_iconst (v := 0) hx hb dX4_person_97 (by decide) ?_
            refine lv_iadd hx hb dX4_person_98 ?_
            refine lv_istore_n (lv' := [(3, .int (x3 + (0 : Int32))), (0, .ref (a 0)), (1, .int x1), (2, .int x2), (4, .int x4)]) hx hb dX4_person_99 rfl hl (by decide) rfl (fun ls hl => ?_)
            refine lv_iinc (v := (x4 + 1)) (lv' := [(4, .int (x4 + 1)), (3, .int (x3 + (0 : Int32))), (0, .ref (a 0)), (1, .int x1), (2, .int x2)]) hx hb dX4_person_100 hl (k := 4) rfl (by first | rfl | decide) (by decide) rfl (fun ls hl => ?_)
            refine lv_goto (tgt := 56) hx hb dX4_person_103 (by decide) ?_
            exact ih _ _ _ _ _ h  _ _ _ hP hD hS (lv_sub hl [2, 3, 4, 1, 0] rfl)
          · replace h := fx_ite_t c90 h
            refine lv_iconst (v := 1) hx hb dX4_person_93 (by decide) ?_
            refine lv_goto (tgt := 98) hx hb dX4_person_94 (by decide) ?_
            refine lv_iadd hx hb dX4_person_98 ?_
            refine lv_istore_n (lv' := [(3, .int (x3 + (1 : Int32))), (0, .ref (a 0)), (1, .int x1), (2, .int x2), (4, .int x4)]) hx hb dX4_person_99 rfl hl (by decide) rfl (fun ls hl => ?_)
            refine lv_iinc (v := (x4 + 1)) (lv' := [(4, .int (x4 + 1)), (3, .int (x3 + (1 : Int32))), (0, .ref (a 0)), (1, .int x1), (2, .int x2)]) hx hb dX4_person_100 hl (k := 4) rfl (by first | rfl | decide) (by decide) rfl (fun ls hl => ?_)
            refine lv_goto (tgt := 56) hx hb dX4_person_103 (by decide) ?_
            exact ih _ _ _ _ _ h  _ _ _ hP hD hS (lv_sub hl [2, 3, 4, 1, 0] rfl)
        · replace h := fx_ite_t c79 h
          refine lv_iconst (v := 2) hx hb dX4_person_82 (by decide) ?_
          refine lv_goto (tgt := 87) hx hb dX4_person_83 (by decide) ?_
          refine lv_iadd hx hb dX4_person_87 ?_
          obtain ⟨g88, h⟩ := chk_inv h
          refine va_iald (n := 61) (f := ss) hx hb hK hP 1 0 rfl rfl g88 dX4_person_88 ?_
          refine lv_iload_n hx hb dX4_person_89 rfl (lv_at hl 1 rfl) ?_
          refine lv_icmp_ne (tgt := 97) hx hb dX4_person_90 (by decide) (fun c90 => ?_) (fun c90 => ?_)
          · replace h := fx_ite_f c90 h
            refine lv_iconst (v := 0) hx hb dX4_person_97 (by decide) ?_
            refine lv_iadd hx hb dX4_person_98 ?_
            refine lv_istore_n (lv' := [(3, .int (x3 + (0 : Int32))), (0, .ref (a 0)), (1, .int x1), (2, .int x2), (4, .int x4)]) hx hb dX4_person_99 rfl hl (by decide) rfl (fun ls hl => ?_)
            refine lv_iinc (v := (x4 + 1)) (lv' := [(4, .int (x4 + 1)), (3, .int (x3 + (0 : Int32))), (0, .ref (a 0)), (1, .int x1), (2, .int x2)]) hx hb dX4_person_100 hl (k := 4) rfl (by first | rfl | decide) (by decide) rfl (fun ls hl => ?_)
            refine lv_goto (tgt := 56) hx hb dX4_person_103 (by decide) ?_
            exact ih _ _ _ _ _ h  _ _ _ hP hD hS (lv_sub hl [2, 3, 4, 1, 0] rfl)
          · replace h := fx_ite_t c90 h
            refine lv_iconst (v := 1) hx hb dX4_person_93 (by decide) ?_
            refine lv_goto (tgt := 98) hx hb dX4_person_94 (by decide) ?_
            refine lv_iadd hx hb dX4_person_98 ?_
            refine lv_istore_n (lv' := [(3, .int (x3 + (1 : Int32))), (0, .ref (a 0)), (1, .int x1), (2, .int x2), (4, .int x4)]) hx hb dX4_person_99 rfl hl (by decide) rfl (fun ls hl => ?_)
            refine lv_iinc (v := (x4 + 1)) (lv' := [(4, .int (x4 + 1)), (3, .int (x3 + (1 : Int32))), (0, .ref (a 0)), (1, .int x1), (2, .int x2)]) hx hb dX4_person_100 hl (k := 4) rfl (by first | rfl | decide) (by decide) rfl (fun ls hl => ?_)
            refine lv_goto (tgt := 56) hx hb dX4_person_103 (by decide) ?_
            exact ih _ _ _ _ _ h  _ _ _ hP hD hS (lv_sub hl [2, 3, 4, 1, 0] rfl)
  unfold M_X4_person at h
  refine lv_aload_n hx hb dX4_person_0 rfl (lv_at hl 0 rfl) ?_
  refine lv_iload_n hx hb dX4_person_1 rfl (lv_at hl 1 rfl) ?_
  obtain ⟨r2, q2, h⟩ := bnd1_inv h
  refine kVI (n := 1) (As := [.int p1]) (rest := []) CF hl hK hP hD hS hA (c_X4_isPerson l D cI a ss mm im wa hi le ro re lm rm pl nu gi bg bm sd p1 r2 q2) gX4_person_X4_isPerson rfl dX4_person_2 (by decide +kernel) ⟨⟨rfl, rfl⟩, ⟨Nat.le_of_ble_eq_true rfl, Nat.le_of_ble_eq_true rfl⟩, Nat.zero_le _, Nat.zero_le _⟩ (JN.whole rfl) 0 rfl ⟨rfl, rfl⟩ rfl rfl (Nat.le_of_ble_eq_true rfl) (fun H locs hP hD hS => ?_)
  replace hP : va_P D vwCl (cM a cI ss mm im wa hi le ro re lm rm pl nu gi bg bm sd) H := hP
  replace hD : va_D A (cM a cI ss mm im wa hi le ro re lm rm pl nu gi bg bm sd) := hD
  refine lv_if_ne (tgt := 14) hx hb dX4_person_5 (by decide) (fun c5 => ?_) (fun c5 => ?_)
  · replace h := fx_ite_f c5 h
    refine lv_iload_n hx hb dX4_person_14 rfl (lv_at hl 2 rfl) ?_
    refine lv_iconst (v := 0) hx hb dX4_person_15 (by decide) ?_
    refine lv_iconst (v := 1) hx hb dX4_person_16 (by decide) ?_
    obtain ⟨r17, q17, h⟩ := bnd1_inv h
    refine kSI (n := 3) (As := [.int p2, .int (0 : Int32), .int (1 : Int32)]) (rest := []) CF hl hK hP hD hS hA (c_X4_isIn l D cI   p2 (0 : Int32) (1 : Int32) r17 q17) gX4_person_X4_isIn rfl dX4_person_17 (by decide +kernel) ⟨⟨rfl, rfl⟩, ⟨Nat.le_of_ble_eq_true rfl, Nat.le_of_ble_eq_true rfl⟩, Nat.zero_le _, Nat.zero_le _⟩ (JN.ro [] rfl rfl) rfl rfl (Nat.le_of_ble_eq_true rfl) (fun H locs hP hD hS => ?_)
    refine lv_if_eq (tgt := 35) hx hb dX4_person_20 (by decide) (fun c20 => ?_) (fun c20 => ?_)
    · replace h := fx_ite_t c20 h
      refine lv_iload_n hx hb dX4_person_35 rfl (lv_at hl 2 rfl) ?_
      refine lv_iconst (v := 2) hx hb dX4_person_36 (by decide) ?_
      refine lv_iconst (v := 3) hx hb dX4_person_37 (by decide) ?_
      obtain ⟨r38, q38, h⟩ := bnd1_inv h
      refine kSI (n := 3) (As := [.int p2, .int (2 : Int32), .int (3 : Int32)]) (rest := []) CF hl hK hP hD hS hA (c_X4_isIn l D cI   p2 (2 : Int32) (3 : Int32) r38 q38) gX4_person_X4_isIn rfl dX4_person_38 (by decide +kernel) ⟨⟨rfl, rfl⟩, ⟨Nat.le_of_ble_eq_true rfl, Nat.le_of_ble_eq_true rfl⟩, Nat.zero_le _, Nat.zero_le _⟩ (JN.ro [] rfl rfl) rfl rfl (Nat.le_of_ble_eq_true rfl) (fun H locs hP hD hS => ?_)
      refine lv_if_ne (tgt := 51) hx hb dX4_person_41 (by decide) (fun c41 => ?_) (fun c41 => ?_)
      · replace h := fx_ite_f c41 h
        refine lv_iconst (v := 0) hx hb dX4_person_51 (by decide) ?_
        refine lv_istore_n (lv' := [(3, .int (0 : Int32)), (0, .ref (a 0)), (1, .int p1), (2, .int p2)]) hx hb dX4_person_52 rfl hl (by decide) rfl (fun ls hl => ?_)
        refine lv_iconst (v := 0) hx hb dX4_person_53 (by decide) ?_
        refine lv_istore (lv' := [(4, .int (0 : Int32)), (3, .int (0 : Int32)), (0, .ref (a 0)), (1, .int p1), (2, .int p2)]) hx hb dX4_person_54 hl (by decide) rfl (fun ls hl => ?_)
        exact L56 FU _ _ _ _ _ h  _ _ _ hP hD hS (lv_sub hl [2, 3, 4, 1, 0] rfl)
      · replace h := fx_ite_t c41 h
        refine lv_aload_n hx hb dX4_person_44 rfl (lv_at hl 0 rfl) ?_
        refine lv_bipush (v := (-2)) hx hb dX4_person_45 (by decide) ?_
        obtain ⟨r47, u47_re, q47, h⟩ := bnd2_inv h
        refine kVI (n := 1) (As := [.int (-2 : Int32)]) (rest := []) CF hl hK hP hD hS hA (c_X4_no l D cI a ss mm im wa hi le ro re lm rm pl nu gi bg bm sd (-2 : Int32) r47 u47_re q47) gX4_person_X4_no rfl dX4_person_47 (by decide +kernel) ⟨⟨rfl, rfl⟩, ⟨Nat.le_of_ble_eq_true rfl, Nat.le_of_ble_eq_true rfl⟩, Nat.zero_le _, Nat.zero_le _⟩ (JN.whole (w1 := (cM a cI ss mm im wa hi le ro u47_re lm rm pl nu gi bg bm sd)) rfl) 0 rfl ⟨rfl, rfl⟩ rfl rfl (Nat.le_of_ble_eq_true rfl) (fun H locs hP hD hS => ?_)
        replace hP : va_P D vwCl (cM a cI ss mm im wa hi le ro u47_re lm rm pl nu gi bg bm sd) H := hP
        replace hD : va_D A (cM a cI ss mm im wa hi le ro u47_re lm rm pl nu gi bg bm sd) := hD
        obtain ⟨rfl, rfl⟩ := rtv2 h
        exact rI hQ hx hb hr hlocks hAe hP hS rfl rfl dX4_person_50
    · replace h := fx_ite_f c20 h
      refine lv_aload_n hx hb dX4_person_23 rfl (lv_at hl 0 rfl) ?_
      refine va_get (D := D) (ci := 4) (v := .ref (a 1)) (C := RX4) (T := TX4) (N := 16) hx hb hts i4 hown hK hP 0 rfl rfl 0 (by decide) f9 (fun _ h9 => h9) rfl dX4_person_24 ?_
      refine lv_iload_n hx hb dX4_person_27 rfl (lv_at hl 1 rfl) ?_
      obtain ⟨r28, q28, h⟩ := bnd1_inv h
      refine kSI (n := 1) (As := [.int p1]) (rest := [.ref (a 1)]) CF hl hK hP hD hS hA (c_X4_ofP l D cI   p1 r28 q28) gX4_person_X4_ofP rfl dX4_person_28 (by decide +kernel) ⟨⟨rfl, rfl⟩, ⟨Nat.le_of_ble_eq_true rfl, Nat.le_of_ble_eq_true rfl⟩, Nat.zero_le _, Nat.zero_le _⟩ (JN.ro [] rfl rfl) rfl rfl (Nat.le_of_ble_eq_true rfl) (fun H locs hP hD hS => ?_)
      refine lv_iload_n hx hb dX4_person_31 rfl (lv_at hl 2 rfl) ?_
      refine lv_iadd hx hb dX4_person_32 ?_
      obtain ⟨g33, h⟩ := chk_inv h
      refine va_iald (n := 61) (f := ss) hx hb hK hP 1 0 rfl rfl g33 dX4_person_33 ?_
      obtain ⟨rfl, rfl⟩ := rtv2 h
      exact rI hQ hx hb hr hlocks hAe hP hS rfl rfl dX4_person_34
  · replace h := fx_ite_t c5 h
    refine lv_aload_n hx hb dX4_person_8 rfl (lv_at hl 0 rfl) ?_
    refine lv_iconst (v := (-1)) hx hb dX4_person_9 (by decide) ?_
    obtain ⟨r10, u10_re, q10, h⟩ := bnd2_inv h
    refine kVI (n := 1) (As := [.int (-1 : Int32)]) (rest := []) CF hl hK hP hD hS hA (c_X4_no l D cI a ss mm im wa hi le ro re lm rm pl nu gi bg bm sd (-1 : Int32) r10 u10_re q10) gX4_person_X4_no rfl dX4_person_10 (by decide +kernel) ⟨⟨rfl, rfl⟩, ⟨Nat.le_of_ble_eq_true rfl, Nat.le_of_ble_eq_true rfl⟩, Nat.zero_le _, Nat.zero_le _⟩ (JN.whole (w1 := (cM a cI ss mm im wa hi le ro u10_re lm rm pl nu gi bg bm sd)) rfl) 0 rfl ⟨rfl, rfl⟩ rfl rfl (Nat.le_of_ble_eq_true rfl) (fun H locs hP hD hS => ?_)
    replace hP : va_P D vwCl (cM a cI ss mm im wa hi le ro u10_re lm rm pl nu gi bg bm sd) H := hP
    replace hD : va_D A (cM a cI ss mm im wa hi le ro u10_re lm rm pl nu gi bg bm sd) := hD
    obtain ⟨rfl, rfl⟩ := rtv2 h
    exact rI hQ hx hb hr hlocks hAe hP hS rfl rfl dX4_person_13
/-! X4_thing -/
set_option maxHeartbeats 4000000 in
set_option maxRecDepth 100000 in
theorem c_X4_thing (l : Launch) (D : va_G) (cI : ClassId) (a : Nat → Nat) (ss : (Nat → Int32)) (mm : (Nat → Int32)) (im : (Nat → Int32)) (wa : (Nat → Int32)) (hi : Int32) (le : (Nat → Int32)) (ro : (Nat → Int32)) (re : (Nat → Int32)) (lm : Int32) (rm : Int32) (pl : Int32) (nu : (Nat → Int32)) (gi : (Nat → Int32)) (bg : (Nat → Int32)) (bm : Int32) (sd : Int32) (p1 : Int32) (p2 : Int32) (res : Int32) (u_re : (Nat → Int32)) (h : M_X4_thing ss re p1 p2 = some (res, u_re)) : mI l yX4_thing wsX4_thing { frames := 2, cells := 0, slots := 0, locals := 43 } D cI [.ref (a 0), .int p1, .int p2] (cM a cI ss mm im wa hi le ro re lm rm pl nu gi bg bm sd) (cM a cI ss mm im wa hi le ro u_re lm rm pl nu gi bg bm sd) res := by
  intro sz
  refine mStart (cc := cX4_thing) (maxL := 3) (ret := (some .int)) (own := RX4) (by decide) rfl rfl (Nat.le_of_ble_eq_true rfl) (lv := [(0, .ref (a 0)), (1, .int p1), (2, .int p2)]) rfl ?_
  intro p e s m args below meth c A ls Q H locs CF hr hlocks hK hP hD hS hA hAe hl hQ
  obtain ⟨hx, hb, hml, hown, hts⟩ := id CF
  have f9 := hts (.fieldLink RX4 9 "MendAnothersBreakingModel" "s" "[I") (List.mem_of_getElem? (i := 1) rfl)
  have i4 : ∀ w ∈ wsX40, w ∈ wsX4_thing := fun w h => List.mem_cons_of_mem _ (List.mem_append_right _ h)
  unfold M_X4_thing at h
  refine lv_aload_n hx hb dX4_thing_0 rfl (lv_at hl 0 rfl) ?_
  refine lv_iload_n hx hb dX4_thing_1 rfl (lv_at hl 1 rfl) ?_
  obtain ⟨r2, q2, h⟩ := bnd1_inv h
  refine kVI (n := 1) (As := [.int p1]) (rest := []) CF hl hK hP hD hS hA (c_X4_isThing l D cI a ss mm im wa hi le ro re lm rm pl nu gi bg bm sd p1 r2 q2) gX4_thing_X4_isThing rfl dX4_thing_2 (by decide +kernel) ⟨⟨rfl, rfl⟩, ⟨Nat.le_of_ble_eq_true rfl, Nat.le_of_ble_eq_true rfl⟩, Nat.zero_le _, Nat.zero_le _⟩ (JN.whole rfl) 0 rfl ⟨rfl, rfl⟩ rfl rfl (Nat.le_of_ble_eq_true rfl) (fun H locs hP hD hS => ?_)
  replace hP : va_P D vwCl (cM a cI ss mm im wa hi le ro re lm rm pl nu gi bg bm sd) H := hP
  replace hD : va_D A (cM a cI ss mm im wa hi le ro re lm rm pl nu gi bg bm sd) := hD
  refine lv_if_ne (tgt := 14) hx hb dX4_thing_5 (by decide) (fun c5 => ?_) (fun c5 => ?_)
  · replace h := fx_ite_f c5 h
    refine lv_iload_n hx hb dX4_thing_14 rfl (lv_at hl 2 rfl) ?_
    refine lv_iconst (v := 0) hx hb dX4_thing_15 (by decide) ?_
    refine lv_iconst (v := 4) hx hb dX4_thing_16 (by decide) ?_
    obtain ⟨r17, q17, h⟩ := bnd1_inv h
    refine kSI (n := 3) (As := [.int p2, .int (0 : Int32), .int (4 : Int32)]) (rest := []) CF hl hK hP hD hS hA (c_X4_isIn l D cI   p2 (0 : Int32) (4 : Int32) r17 q17) gX4_thing_X4_isIn rfl dX4_thing_17 (by decide +kernel) ⟨⟨rfl, rfl⟩, ⟨Nat.le_of_ble_eq_true rfl, Nat.le_of_ble_eq_true rfl⟩, Nat.zero_le _, Nat.zero_le _⟩ (JN.ro [] rfl rfl) rfl rfl (Nat.le_of_ble_eq_true rfl) (fun H locs hP hD hS => ?_)
    refine lv_if_eq (tgt := 35) hx hb dX4_thing_20 (by decide) (fun c20 => ?_) (fun c20 => ?_)
    · replace h := fx_ite_t c20 h
      refine lv_iload_n hx hb dX4_thing_35 rfl (lv_at hl 2 rfl) ?_
      refine lv_iconst (v := 5) hx hb dX4_thing_36 (by decide) ?_
      refine lv_icmp_ne (tgt := 51) hx hb dX4_thing_37 (by decide) (fun c37 => ?_) (fun c37 => ?_)
      · replace h := fx_ite_f c37 h
        refine lv_iload_n hx hb dX4_thing_51 rfl (lv_at hl 2 rfl) ?_
        refine lv_bipush (v := 6) hx hb dX4_thing_52 (by decide) ?_
        refine lv_icmp_ne (tgt := 93) hx hb dX4_thing_54 (by decide) (fun c54 => ?_) (fun c54 => ?_)
        · replace h := fx_ite_f c54 h
          refine lv_aload_n hx hb dX4_thing_93 rfl (lv_at hl 0 rfl) ?_
          refine lv_bipush (v := (-2)) hx hb dX4_thing_94 (by decide) ?_
          obtain ⟨r96, u96_re, q96, h⟩ := bnd2_inv h
          refine kVI (n := 1) (As := [.int (-2 : Int32)]) (rest := []) CF hl hK hP hD hS hA (c_X4_no l D cI a ss mm im wa hi le ro re lm rm pl nu gi bg bm sd (-2 : Int32) r96 u96_re q96) gX4_thing_X4_no rfl dX4_thing_96 (by decide +kernel) ⟨⟨rfl, rfl⟩, ⟨Nat.le_of_ble_eq_true rfl, Nat.le_of_ble_eq_true rfl⟩, Nat.zero_le _, Nat.zero_le _⟩ (JN.whole (w1 := (cM a cI ss mm im wa hi le ro u96_re lm rm pl nu gi bg bm sd)) rfl) 0 rfl ⟨rfl, rfl⟩ rfl rfl (Nat.le_of_ble_eq_true rfl) (fun H locs hP hD hS => ?_)
          replace hP : va_P D vwCl (cM a cI ss mm im wa hi le ro u96_re lm rm pl nu gi bg bm sd) H := hP
          replace hD : va_D A (cM a cI ss mm im wa hi le ro u96_re lm rm pl nu gi bg bm sd) := hD
          obtain ⟨rfl, rfl⟩ := rtv2 h
          exact rI hQ hx hb hr hlocks hAe hP hS rfl rfl dX4_thing_99
        · replace h := fx_ite_t c54 h
          refine lv_aload_n hx hb dX4_thing_57 rfl (lv_at hl 0 rfl) ?_
          refine va_get (D := D) (ci := 4) (v := .ref (a 1)) (C := RX4) (T := TX4) (N := 16) hx hb hts i4 hown hK hP 0 rfl rfl 0 (by decide) f9 (fun _ h9 => h9) rfl dX4_thing_58 ?_
          refine lv_iload_n hx hb dX4_thing_61 rfl (lv_at hl 1 rfl) ?_
          obtain ⟨r62, q62, h⟩ := bnd1_inv h
          refine kSI (n := 1) (As := [.int p1]) (rest := [.ref (a 1)]) CF hl hK hP hD hS hA (c_X4_ofT l D cI   p1 r62 q62) gX4_thing_X4_ofT rfl dX4_thing_62 (by decide +kernel) ⟨⟨rfl, rfl⟩, ⟨Nat.le_of_ble_eq_true rfl, Nat.le_of_ble_eq_true rfl⟩, Nat.zero_le _, Nat.zero_le _⟩ (JN.ro [] rfl rfl) rfl rfl (Nat.le_of_ble_eq_true rfl) (fun H locs hP hD hS => ?_)
          refine lv_iconst (v := 0) hx hb dX4_thing_65 (by decide) ?_
          refine lv_iadd hx hb dX4_thing_66 ?_
          obtain ⟨g67, h⟩ := chk_inv h
          refine va_iald (n := 61) (f := ss) hx hb hK hP 1 0 rfl rfl g67 dX4_thing_67 ?_
          refine lv_aload_n hx hb dX4_thing_68 rfl (lv_at hl 0 rfl) ?_
          refine va_get (D := D) (ci := 4) (v := .ref (a 1)) (C := RX4) (T := TX4) (N := 16) hx hb hts i4 hown hK hP 0 rfl rfl 0 (by decide) f9 (fun _ h9 => h9) rfl dX4_thing_69 ?_
          refine lv_iload_n hx hb dX4_thing_72 rfl (lv_at hl 1 rfl) ?_
          obtain ⟨r73, q73, h⟩ := bnd1_inv h
          refine kSI (n := 1) (As := [.int p1]) (rest := [.ref (a 1), .int (ss (Int32.toNatClampNeg (r62 + (0 : Int32))))]) CF hl hK hP hD hS hA (c_X4_ofT l D cI   p1 r73 q73) gX4_thing_X4_ofT rfl dX4_thing_73 (by decide +kernel) ⟨⟨rfl, rfl⟩, ⟨Nat.le_of_ble_eq_true rfl, Nat.le_of_ble_eq_true rfl⟩, Nat.zero_le _, Nat.zero_le _⟩ (JN.ro [] rfl rfl) rfl rfl (Nat.le_of_ble_eq_true rfl) (fun H locs hP hD hS => ?_)
          refine lv_iconst (v := 1) hx hb dX4_thing_76 (by decide) ?_
          refine lv_iadd hx hb dX4_thing_77 ?_
          obtain ⟨g78, h⟩ := chk_inv h
          refine va_iald (n := 61) (f := ss) hx hb hK hP 1 0 rfl rfl g78 dX4_thing_78 ?_
          refine lv_aload_n hx hb dX4_thing_79 rfl (lv_at hl 0 rfl) ?_
          refine va_get (D := D) (ci := 4) (v := .ref (a 1)) (C := RX4) (T := TX4) (N := 16) hx hb hts i4 hown hK hP 0 rfl rfl 0 (by decide) f9 (fun _ h9 => h9) rfl dX4_thing_80 ?_
          refine lv_iconst (v := 2) hx hb dX4_thing_83 (by decide) ?_
          refine ald (n := 61) (f := ss) (k := 2) hx hb hK hP 1 0 rfl rfl (fx_lit rfl) rfl dX4_thing_84 ?_
          refine lv_iconst (v := 1) hx hb dX4_thing_85 (by decide) ?_
          refine lv_iadd hx hb dX4_thing_86 ?_
          obtain ⟨r87, q87, h⟩ := bnd1_inv h
          refine kSI (n := 3) (As := [.int (ss (Int32.toNatClampNeg (r62 + (0 : Int32)))), .int (ss (Int32.toNatClampNeg (r73 + (1 : Int32)))), .int ((ss 2) + (1 : Int32))]) (rest := []) CF hl hK hP hD hS hA (c_X4_wearBy l D cI   (ss (Int32.toNatClampNeg (r62 + (0 : Int32)))) (ss (Int32.toNatClampNeg (r73 + (1 : Int32)))) ((ss 2) + (1 : Int32)) r87 q87) gX4_thing_X4_wearBy rfl dX4_thing_87 (by decide +kernel) ⟨⟨rfl, rfl⟩, ⟨Nat.le_of_ble_eq_true rfl, Nat.le_of_ble_eq_true rfl⟩, Nat.zero_le _, Nat.zero_le _⟩ (JN.ro [] rfl rfl) rfl rfl (Nat.le_of_ble_eq_true rfl) (fun H locs hP hD hS => ?_)
          refine lv_goto (tgt := 99) hx hb dX4_thing_90 (by decide) ?_
          obtain ⟨rfl, rfl⟩ := rtv2 h
          exact rI hQ hx hb hr hlocks hAe hP hS rfl rfl dX4_thing_99
      · replace h := fx_ite_t c37 h
        refine lv_aload_n hx hb dX4_thing_40 rfl (lv_at hl 0 rfl) ?_
        refine va_get (D := D) (ci := 4) (v := .ref (a 1)) (C := RX4) (T := TX4) (N := 16) hx hb hts i4 hown hK hP 0 rfl rfl 0 (by decide) f9 (fun _ h9 => h9) rfl dX4_thing_41 ?_
        refine lv_iload_n hx hb dX4_thing_44 rfl (lv_at hl 1 rfl) ?_
        obtain ⟨r45, q45, h⟩ := bnd1_inv h
        refine kSI (n := 2) (As := [.ref (a 1), .int p1]) (rest := []) CF hl hK hP hD hS hA (c_X4_hard l D cI (a 1) ss p1 r45 q45) gX4_thing_X4_hard rfl dX4_thing_45 (by decide +kernel) ⟨⟨rfl, rfl⟩, ⟨Nat.le_of_ble_eq_true rfl, Nat.le_of_ble_eq_true rfl⟩, Nat.zero_le _, Nat.zero_le _⟩ (JN.ro [1] rfl rfl) rfl rfl (Nat.le_of_ble_eq_true rfl) (fun H locs hP hD hS => ?_)
        refine lv_goto (tgt := 99) hx hb dX4_thing_48 (by decide) ?_
        obtain ⟨rfl, rfl⟩ := rtv2 h
        exact rI hQ hx hb hr hlocks hAe hP hS rfl rfl dX4_thing_99
    · replace h := fx_ite_f c20 h
      refine lv_aload_n hx hb dX4_thing_23 rfl (lv_at hl 0 rfl) ?_
      refine va_get (D := D) (ci := 4) (v := .ref (a 1)) (C := RX4) (T := TX4) (N := 16) hx hb hts i4 hown hK hP 0 rfl rfl 0 (by decide) f9 (fun _ h9 => h9) rfl dX4_thing_24 ?_
      refine lv_iload_n hx hb dX4_thing_27 rfl (lv_at hl 1 rfl) ?_
      obtain ⟨r28, q28, h⟩ := bnd1_inv h
      refine kSI (n := 1) (As := [.int p1]) (rest := [.ref (a 1)]) CF hl hK hP hD hS hA (c_X4_ofT l D cI   p1 r28 q28) gX4_thing_X4_ofT rfl dX4_thing_28 (by decide +kernel) ⟨⟨rfl, rfl⟩, ⟨Nat.le_of_ble_eq_true rfl, Nat.le_of_ble_eq_true rfl⟩, Nat.zero_le _, Nat.zero_le _⟩ (JN.ro [] rfl rfl) rfl rfl (Nat.le_of_ble_eq_true rfl) (fun H locs hP hD hS => ?_)
      refine lv_iload_n hx hb dX4_thing_31 rfl (lv_at hl 2 rfl) ?_
      refine lv_iadd hx hb dX4_thing_32 ?_
      obtain ⟨g33, h⟩ := chk_inv h
      refine va_iald (n := 61) (f := ss) hx hb hK hP 1 0 rfl rfl g33 dX4_thing_33 ?_
      obtain ⟨rfl, rfl⟩ := rtv2 h
      exact rI hQ hx hb hr hlocks hAe hP hS rfl rfl dX4_thing_34
  · replace h := fx_ite_t c5 h
    refine lv_aload_n hx hb dX4_thing_8 rfl (lv_at hl 0 rfl) ?_
    refine lv_iconst (v := (-1)) hx hb dX4_thing_9 (by decide) ?_
    obtain ⟨r10, u10_re, q10, h⟩ := bnd2_inv h
    refine kVI (n := 1) (As := [.int (-1 : Int32)]) (rest := []) CF hl hK hP hD hS hA (c_X4_no l D cI a ss mm im wa hi le ro re lm rm pl nu gi bg bm sd (-1 : Int32) r10 u10_re q10) gX4_thing_X4_no rfl dX4_thing_10 (by decide +kernel) ⟨⟨rfl, rfl⟩, ⟨Nat.le_of_ble_eq_true rfl, Nat.le_of_ble_eq_true rfl⟩, Nat.zero_le _, Nat.zero_le _⟩ (JN.whole (w1 := (cM a cI ss mm im wa hi le ro u10_re lm rm pl nu gi bg bm sd)) rfl) 0 rfl ⟨rfl, rfl⟩ rfl rfl (Nat.le_of_ble_eq_true rfl) (fun H locs hP hD hS => ?_)
    replace hP : va_P D vwCl (cM a cI ss mm im wa hi le ro u10_re lm rm pl nu gi bg bm sd) H := hP
    replace hD : va_D A (cM a cI ss mm im wa hi le ro u10_re lm rm pl nu gi bg bm sd) := hD
    obtain ⟨rfl, rfl⟩ := rtv2 h
    exact rI hQ hx hb hr hlocks hAe hP hS rfl rfl dX4_thing_13
/-! X4_wrongBreak -/
set_option maxHeartbeats 4000000 in
set_option maxRecDepth 100000 in
theorem c_X4_wrongBreak (l : Launch) (D : va_G) (cI : ClassId) (a : Nat → Nat) (ss : (Nat → Int32)) (mm : (Nat → Int32)) (im : (Nat → Int32)) (wa : (Nat → Int32)) (hi : Int32) (le : (Nat → Int32)) (ro : (Nat → Int32)) (re : (Nat → Int32)) (lm : Int32) (rm : Int32) (pl : Int32) (nu : (Nat → Int32)) (gi : (Nat → Int32)) (bg : (Nat → Int32)) (bm : Int32) (sd : Int32) (p1 : Int32) (p2 : Int32) (res : Int32) (h : M_X4_wrongBreak ss p1 p2 = some res) : mI l yX4_wrongBreak wsX4_wrongBreak { frames := 2, cells := 0, slots := 0, locals := 43 } D cI [.ref (a 0), .int p1, .int p2] (cM a cI ss mm im wa hi le ro re lm rm pl nu gi bg bm sd) (cM a cI ss mm im wa hi le ro re lm rm pl nu gi bg bm sd) res := by
  intro sz
  refine mStart (cc := cX4_wrongBreak) (maxL := 3) (ret := (some .int)) (own := RX4) (by decide) rfl rfl (Nat.le_of_ble_eq_true rfl) (lv := [(0, .ref (a 0)), (1, .int p1), (2, .int p2)]) rfl ?_
  intro p e s m args below meth c A ls Q H locs CF hr hlocks hK hP hD hS hA hAe hl hQ
  obtain ⟨hx, hb, hml, hown, hts⟩ := id CF
  have f9 := hts (.fieldLink RX4 9 "MendAnothersBreakingModel" "s" "[I") (List.mem_of_getElem? (i := 1) rfl)
  have i4 : ∀ w ∈ wsX40, w ∈ wsX4_wrongBreak := fun w h => List.mem_cons_of_mem _ (List.mem_append_right _ h)
  unfold M_X4_wrongBreak at h
  refine lv_iload_n hx hb dX4_wrongBreak_0 rfl (lv_at hl 2 rfl) ?_
  refine lv_if_eq (tgt := 12) hx hb dX4_wrongBreak_1 (by decide) (fun c1 => ?_) (fun c1 => ?_)
  · replace h := fx_ite_t c1 h
    refine lv_iconst (v := (-1)) hx hb dX4_wrongBreak_12 (by decide) ?_
    refine lv_goto (tgt := 33) hx hb dX4_wrongBreak_13 (by decide) ?_
    obtain rfl := rtv1 h
    exact rI hQ hx hb hr hlocks hAe hP hS rfl rfl dX4_wrongBreak_33
  · replace h := fx_ite_f c1 h
    refine lv_aload_n hx hb dX4_wrongBreak_4 rfl (lv_at hl 0 rfl) ?_
    refine lv_iload_n hx hb dX4_wrongBreak_5 rfl (lv_at hl 1 rfl) ?_
    obtain ⟨r6, q6, h⟩ := bnd1_inv h
    refine kVI (n := 1) (As := [.int p1]) (rest := []) CF hl hK hP hD hS hA (c_X4_isThing l D cI a ss mm im wa hi le ro re lm rm pl nu gi bg bm sd p1 r6 q6) gX4_wrongBreak_X4_isThing rfl dX4_wrongBreak_6 (by decide +kernel) ⟨⟨rfl, rfl⟩, ⟨Nat.le_of_ble_eq_true rfl, Nat.le_of_ble_eq_true rfl⟩, Nat.zero_le _, Nat.zero_le _⟩ (JN.whole rfl) 0 rfl ⟨rfl, rfl⟩ rfl rfl (Nat.le_of_ble_eq_true rfl) (fun H locs hP hD hS => ?_)
    replace hP : va_P D vwCl (cM a cI ss mm im wa hi le ro re lm rm pl nu gi bg bm sd) H := hP
    replace hD : va_D A (cM a cI ss mm im wa hi le ro re lm rm pl nu gi bg bm sd) := hD
    refine lv_if_ne (tgt := 16) hx hb dX4_wrongBreak_9 (by decide) (fun c9 => ?_) (fun c9 => ?_)
    · replace h := fx_ite_f c9 h
      refine lv_aload_n hx hb dX4_wrongBreak_16 rfl (lv_at hl 0 rfl) ?_
      refine va_get (D := D) (ci := 4) (v := .ref (a 1)) (C := RX4) (T := TX4) (N := 16) hx hb hts i4 hown hK hP 0 rfl rfl 0 (by decide) f9 (fun _ h9 => h9) rfl dX4_wrongBreak_17 ?_
      refine lv_iload_n hx hb dX4_wrongBreak_20 rfl (lv_at hl 1 rfl) ?_
      obtain ⟨r21, q21, h⟩ := bnd1_inv h
      refine kSI (n := 2) (As := [.ref (a 1), .int p1]) (rest := []) CF hl hK hP hD hS hA (c_X4_isWhole l D cI (a 1) ss p1 r21 q21) gX4_wrongBreak_X4_isWhole rfl dX4_wrongBreak_21 (by decide +kernel) ⟨⟨rfl, rfl⟩, ⟨Nat.le_of_ble_eq_true rfl, Nat.le_of_ble_eq_true rfl⟩, Nat.zero_le _, Nat.zero_le _⟩ (JN.ro [1] rfl rfl) rfl rfl (Nat.le_of_ble_eq_true rfl) (fun H locs hP hD hS => ?_)
      refine lv_if_eq (tgt := 31) hx hb dX4_wrongBreak_24 (by decide) (fun c24 => ?_) (fun c24 => ?_)
      · replace h := fx_ite_t c24 h
        refine lv_bipush (v := (-3)) hx hb dX4_wrongBreak_31 (by decide) ?_
        obtain rfl := rtv1 h
        exact rI hQ hx hb hr hlocks hAe hP hS rfl rfl dX4_wrongBreak_33
      · replace h := fx_ite_f c24 h
        refine lv_iconst (v := 0) hx hb dX4_wrongBreak_27 (by decide) ?_
        refine lv_goto (tgt := 33) hx hb dX4_wrongBreak_28 (by decide) ?_
        obtain rfl := rtv1 h
        exact rI hQ hx hb hr hlocks hAe hP hS rfl rfl dX4_wrongBreak_33
    · replace h := fx_ite_t c9 h
      refine lv_iconst (v := (-1)) hx hb dX4_wrongBreak_12 (by decide) ?_
      refine lv_goto (tgt := 33) hx hb dX4_wrongBreak_13 (by decide) ?_
      obtain rfl := rtv1 h
      exact rI hQ hx hb hr hlocks hAe hP hS rfl rfl dX4_wrongBreak_33
/-! X4_breaks -/
set_option maxHeartbeats 4000000 in
set_option maxRecDepth 100000 in
theorem c_X4_breaks (l : Launch) (D : va_G) (cI : ClassId) (a : Nat → Nat) (ss : (Nat → Int32)) (mm : (Nat → Int32)) (im : (Nat → Int32)) (wa : (Nat → Int32)) (hi : Int32) (le : (Nat → Int32)) (ro : (Nat → Int32)) (re : (Nat → Int32)) (lm : Int32) (rm : Int32) (pl : Int32) (nu : (Nat → Int32)) (gi : (Nat → Int32)) (bg : (Nat → Int32)) (bm : Int32) (sd : Int32) (p1 : Int32) (p2 : Int32) (res : Int32) (u_ss : (Nat → Int32)) (u_re : (Nat → Int32)) (h : M_X4_breaks ss re p1 p2 = some (res, u_ss, u_re)) : mI l yX4_breaks wsX4_breaks { frames := 3, cells := 0, slots := 0, locals := 65 } D cI [.ref (a 0), .int p1, .int p2] (cM a cI ss mm im wa hi le ro re lm rm pl nu gi bg bm sd) (cM a cI u_ss mm im wa hi le ro u_re lm rm pl nu gi bg bm sd) res := by
  intro sz
  refine mStart (cc := cX4_breaks) (maxL := 4) (ret := (some .int)) (own := RX4) (by decide) rfl rfl (Nat.le_of_ble_eq_true rfl) (lv := [(0, .ref (a 0)), (1, .int p1), (2, .int p2)]) rfl ?_
  intro p e s m args below meth c A ls Q H locs CF hr hlocks hK hP hD hS hA hAe hl hQ
  obtain ⟨hx, hb, hml, hown, hts⟩ := id CF
  have f9 := hts (.fieldLink RX4 9 "MendAnothersBreakingModel" "s" "[I") (List.mem_of_getElem? (i := 1) rfl)
  have i4 : ∀ w ∈ wsX40, w ∈ wsX4_breaks := fun w h => List.mem_cons_of_mem _ (List.mem_append_right _ h)
  unfold M_X4_breaks at h
  refine lv_aload_n hx hb dX4_breaks_0 rfl (lv_at hl 0 rfl) ?_
  refine lv_iload_n hx hb dX4_breaks_1 rfl (lv_at hl 2 rfl) ?_
  refine lv_aload_n hx hb dX4_breaks_2 rfl (lv_at hl 0 rfl) ?_
  refine lv_iload_n hx hb dX4_breaks_3 rfl (lv_at hl 1 rfl) ?_
  obtain ⟨r4, q4, h⟩ := bnd1_inv h
  refine kVI (n := 1) (As := [.int p1]) (rest := [.int p2, .ref (a 0)]) CF hl hK hP hD hS hA (c_X4_isPerson l D cI a ss mm im wa hi le ro re lm rm pl nu gi bg bm sd p1 r4 q4) gX4_breaks_X4_isPerson rfl dX4_breaks_4 (by decide +kernel) ⟨⟨rfl, rfl⟩, ⟨Nat.le_of_ble_eq_true rfl, Nat.le_of_ble_eq_true rfl⟩, Nat.zero_le _, Nat.zero_le _⟩ (JN.whole rfl) 0 rfl ⟨rfl, rfl⟩ rfl rfl (Nat.le_of_ble_eq_true rfl) (fun H locs hP hD hS => ?_)
  replace hP : va_P D vwCl (cM a cI ss mm im wa hi le ro re lm rm pl nu gi bg bm sd) H := hP
  replace hD : va_D A (cM a cI ss mm im wa hi le ro re lm rm pl nu gi bg bm sd) := hD
  obtain ⟨r7, q7, h⟩ := bnd1_inv h
  refine kVI (n := 2) (As := [.int p2, .int r4]) (rest := []) CF hl hK hP hD hS hA (c_X4_wrongBreak l D cI a ss mm im wa hi le ro re lm rm pl nu gi bg bm sd p2 r4 r7 q7) gX4_breaks_X4_wrongBreak rfl dX4_breaks_7 (by decide +kernel) ⟨⟨rfl, rfl⟩, ⟨Nat.le_of_ble_eq_true rfl, Nat.le_of_ble_eq_true rfl⟩, Nat.zero_le _, Nat.zero_le _⟩ (JN.whole rfl) 0 rfl ⟨rfl, rfl⟩ rfl rfl (Nat.le_of_ble_eq_true rfl) (fun H locs hP hD hS => ?_)
  replace hP : va_P D vwCl (cM a cI ss mm im wa hi le ro re lm rm pl nu gi bg bm sd) H := hP
  replace hD : va_D A (cM a cI ss mm im wa hi le ro re lm rm pl nu gi bg bm sd) := hD
  refine lv_istore_n (lv' := [(3, .int r7), (0, .ref (a 0)), (1, .int p1), (2, .int p2)]) hx hb dX4_breaks_10 rfl hl (by decide) rfl (fun ls hl => ?_)
  refine lv_iload_n hx hb dX4_breaks_11 rfl (lv_at hl 0 rfl) ?_
  refine lv_if_eq (tgt := 21) hx hb dX4_breaks_12 (by decide) (fun c12 => ?_) (fun c12 => ?_)
  · replace h := fx_ite_t c12 h
    refine lv_aload_n hx hb dX4_breaks_21 rfl (lv_at hl 1 rfl) ?_
    refine va_get (D := D) (ci := 4) (v := .ref (a 1)) (C := RX4) (T := TX4) (N := 16) hx hb hts i4 hown hK hP 0 rfl rfl 0 (by decide) f9 (fun _ h9 => h9) rfl dX4_breaks_22 ?_
    refine lv_iload_n hx hb dX4_breaks_25 rfl (lv_at hl 3 rfl) ?_
    obtain ⟨r26, q26, h⟩ := bnd1_inv h
    refine kSI (n := 1) (As := [.int p2]) (rest := [.ref (a 1)]) CF hl hK hP hD hS hA (c_X4_ofT l D cI   p2 r26 q26) gX4_breaks_X4_ofT rfl dX4_breaks_26 (by decide +kernel) ⟨⟨rfl, rfl⟩, ⟨Nat.le_of_ble_eq_true rfl, Nat.le_of_ble_eq_true rfl⟩, Nat.zero_le _, Nat.zero_le _⟩ (JN.ro [] rfl rfl) rfl rfl (Nat.le_of_ble_eq_true rfl) (fun H locs hP hD hS => ?_)
    refine lv_iconst (v := 4) hx hb dX4_breaks_29 (by decide) ?_
    refine lv_iadd hx hb dX4_breaks_30 ?_
    refine lv_iload_n hx hb dX4_breaks_31 rfl (lv_at hl 2 rfl) ?_
    obtain ⟨g32, h⟩ := chk_inv h
    refine va_iast (n := 61) (f := ss) hx hb hK hP hD hS 1 0 rfl rfl g32 dX4_breaks_32 (fun H locs hP hD hS => ?_)
    replace hP : va_P D vwCl (cM a cI (upd ss (Int32.toNatClampNeg (r26 + (4 : Int32))) p1) mm im wa hi le ro re lm rm pl nu gi bg bm sd) H := hP
    replace hD : va_D A (cM a cI (upd ss (Int32.toNatClampNeg (r26 + (4 : Int32))) p1) mm im wa hi le ro re lm rm pl nu gi bg bm sd) := hD
    refine lv_aload_n hx hb dX4_breaks_33 rfl (lv_at hl 1 rfl) ?_
    refine va_get (D := D) (ci := 4) (v := .ref (a 1)) (C := RX4) (T := TX4) (N := 16) hx hb hts i4 hown hK hP 0 rfl rfl 0 (by decide) f9 (fun _ h9 => h9) rfl dX4_breaks_34 ?_
    obtain ⟨r37, q37, h⟩ := bnd1_inv h
    refine kSI (n := 1) (As := [.ref (a 1)]) (rest := []) CF hl hK hP hD hS hA (c_X4_wholeSet l D cI (a 1) (upd ss (Int32.toNatClampNeg (r26 + (4 : Int32))) p1)  r37 q37) gX4_breaks_X4_wholeSet rfl dX4_breaks_37 (by decide +kernel) ⟨⟨rfl, rfl⟩, ⟨Nat.le_of_ble_eq_true rfl, Nat.le_of_ble_eq_true rfl⟩, Nat.zero_le _, Nat.zero_le _⟩ (JN.ro [1] rfl rfl) rfl rfl (Nat.le_of_ble_eq_true rfl) (fun H locs hP hD hS => ?_)
    obtain ⟨r40, q40, h⟩ := bnd1_inv h
    refine kSI (n := 1) (As := [.int r37]) (rest := []) CF hl hK hP hD hS hA (c_X4_bits l D cI   r37 r40 q40) gX4_breaks_X4_bits rfl dX4_breaks_40 (by decide +kernel) ⟨⟨rfl, rfl⟩, ⟨Nat.le_of_ble_eq_true rfl, Nat.le_of_ble_eq_true rfl⟩, Nat.zero_le _, Nat.zero_le _⟩ (JN.ro [] rfl rfl) rfl rfl (Nat.le_of_ble_eq_true rfl) (fun H locs hP hD hS => ?_)
    obtain ⟨rfl, rfl, rfl⟩ := rtv3 h
    exact rI hQ hx hb hr hlocks hAe hP hS rfl rfl dX4_breaks_43
  · replace h := fx_ite_f c12 h
    refine lv_aload_n hx hb dX4_breaks_15 rfl (lv_at hl 1 rfl) ?_
    refine lv_iload_n hx hb dX4_breaks_16 rfl (lv_at hl 0 rfl) ?_
    obtain ⟨r17, u17_re, q17, h⟩ := bnd2_inv h
    refine kVI (n := 1) (As := [.int r7]) (rest := []) CF hl hK hP hD hS hA (c_X4_no l D cI a ss mm im wa hi le ro re lm rm pl nu gi bg bm sd r7 r17 u17_re q17) gX4_breaks_X4_no rfl dX4_breaks_17 (by decide +kernel) ⟨⟨rfl, rfl⟩, ⟨Nat.le_of_ble_eq_true rfl, Nat.le_of_ble_eq_true rfl⟩, Nat.zero_le _, Nat.zero_le _⟩ (JN.whole (w1 := (cM a cI ss mm im wa hi le ro u17_re lm rm pl nu gi bg bm sd)) rfl) 0 rfl ⟨rfl, rfl⟩ rfl rfl (Nat.le_of_ble_eq_true rfl) (fun H locs hP hD hS => ?_)
    replace hP : va_P D vwCl (cM a cI ss mm im wa hi le ro u17_re lm rm pl nu gi bg bm sd) H := hP
    replace hD : va_D A (cM a cI ss mm im wa hi le ro u17_re lm rm pl nu gi bg bm sd) := hD
    obtain ⟨rfl, rfl, rfl⟩ := rtv3 h
    exact rI hQ hx hb hr hlocks hAe hP hS rfl rfl dX4_breaks_20
/-! X4_rusts -/
set_option maxHeartbeats 4000000 in
set_option maxRecDepth 100000 in
theorem c_X4_rusts (l : Launch) (D : va_G) (cI : ClassId) (a : Nat → Nat) (ss : (Nat → Int32)) (mm : (Nat → Int32)) (im : (Nat → Int32)) (wa : (Nat → Int32)) (hi : Int32) (le : (Nat → Int32)) (ro : (Nat → Int32)) (re : (Nat → Int32)) (lm : Int32) (rm : Int32) (pl : Int32) (nu : (Nat → Int32)) (gi : (Nat → Int32)) (bg : (Nat → Int32)) (bm : Int32) (sd : Int32) (p1 : Int32) (res : Int32) (u_ss : (Nat → Int32)) (u_re : (Nat → Int32)) (h : M_X4_rusts ss re p1 = some (res, u_ss, u_re)) : mI l yX4_rusts wsX4_rusts { frames := 3, cells := 0, slots := 0, locals := 65 } D cI [.ref (a 0), .int p1] (cM a cI ss mm im wa hi le ro re lm rm pl nu gi bg bm sd) (cM a cI u_ss mm im wa hi le ro u_re lm rm pl nu gi bg bm sd) res := by
  intro sz
  refine mStart (cc := cX4_rusts) (maxL := 3) (ret := (some .int)) (own := RX4) (by decide) rfl rfl (Nat.le_of_ble_eq_true rfl) (lv := [(0, .ref (a 0)), (1, .int p1)]) rfl ?_
  intro p e s m args below meth c A ls Q H locs CF hr hlocks hK hP hD hS hA hAe hl hQ
  obtain ⟨hx, hb, hml, hown, hts⟩ := id CF
  have f9 := hts (.fieldLink RX4 9 "MendAnothersBreakingModel" "s" "[I") (List.mem_of_getElem? (i := 1) rfl)
  have i4 : ∀ w ∈ wsX40, w ∈ wsX4_rusts := fun w h => List.mem_cons_of_mem _ (List.mem_append_right _ h)
  unfold M_X4_rusts at h
  refine lv_aload_n hx hb dX4_rusts_0 rfl (lv_at hl 0 rfl) ?_
  refine lv_iload_n hx hb dX4_rusts_1 rfl (lv_at hl 1 rfl) ?_
  refine lv_iconst (v := 1) hx hb dX4_rusts_2 (by decide) ?_
  obtain ⟨r3, q3, h⟩ := bnd1_inv h
  refine kVI (n := 2) (As := [.int p1, .int (1 : Int32)]) (rest := []) CF hl hK hP hD hS hA (c_X4_wrongBreak l D cI a ss mm im wa hi le ro re lm rm pl nu gi bg bm sd p1 (1 : Int32) r3 q3) gX4_rusts_X4_wrongBreak rfl dX4_rusts_3 (by decide +kernel) ⟨⟨rfl, rfl⟩, ⟨Nat.le_of_ble_eq_true rfl, Nat.le_of_ble_eq_true rfl⟩, Nat.zero_le _, Nat.zero_le _⟩ (JN.whole rfl) 0 rfl ⟨rfl, rfl⟩ rfl rfl (Nat.le_of_ble_eq_true rfl) (fun H locs hP hD hS => ?_)
  replace hP : va_P D vwCl (cM a cI ss mm im wa hi le ro re lm rm pl nu gi bg bm sd) H := hP
  replace hD : va_D A (cM a cI ss mm im wa hi le ro re lm rm pl nu gi bg bm sd) := hD
  refine lv_istore_n (lv' := [(2, .int r3), (0, .ref (a 0)), (1, .int p1)]) hx hb dX4_rusts_6 rfl hl (by decide) rfl (fun ls hl => ?_)
  refine lv_iload_n hx hb dX4_rusts_7 rfl (lv_at hl 0 rfl) ?_
  refine lv_if_eq (tgt := 17) hx hb dX4_rusts_8 (by decide) (fun c8 => ?_) (fun c8 => ?_)
  · replace h := fx_ite_t c8 h
    refine lv_aload_n hx hb dX4_rusts_17 rfl (lv_at hl 1 rfl) ?_
    refine va_get (D := D) (ci := 4) (v := .ref (a 1)) (C := RX4) (T := TX4) (N := 16) hx hb hts i4 hown hK hP 0 rfl rfl 0 (by decide) f9 (fun _ h9 => h9) rfl dX4_rusts_18 ?_
    refine lv_iload_n hx hb dX4_rusts_21 rfl (lv_at hl 2 rfl) ?_
    obtain ⟨r22, q22, h⟩ := bnd1_inv h
    refine kSI (n := 1) (As := [.int p1]) (rest := [.ref (a 1)]) CF hl hK hP hD hS hA (c_X4_ofT l D cI   p1 r22 q22) gX4_rusts_X4_ofT rfl dX4_rusts_22 (by decide +kernel) ⟨⟨rfl, rfl⟩, ⟨Nat.le_of_ble_eq_true rfl, Nat.le_of_ble_eq_true rfl⟩, Nat.zero_le _, Nat.zero_le _⟩ (JN.ro [] rfl rfl) rfl rfl (Nat.le_of_ble_eq_true rfl) (fun H locs hP hD hS => ?_)
    refine lv_iconst (v := 4) hx hb dX4_rusts_25 (by decide) ?_
    refine lv_iadd hx hb dX4_rusts_26 ?_
    refine lv_bipush (v := (-8)) hx hb dX4_rusts_27 (by decide) ?_
    obtain ⟨g29, h⟩ := chk_inv h
    refine va_iast (n := 61) (f := ss) hx hb hK hP hD hS 1 0 rfl rfl g29 dX4_rusts_29 (fun H locs hP hD hS => ?_)
    replace hP : va_P D vwCl (cM a cI (upd ss (Int32.toNatClampNeg (r22 + (4 : Int32))) (-8 : Int32)) mm im wa hi le ro re lm rm pl nu gi bg bm sd) H := hP
    replace hD : va_D A (cM a cI (upd ss (Int32.toNatClampNeg (r22 + (4 : Int32))) (-8 : Int32)) mm im wa hi le ro re lm rm pl nu gi bg bm sd) := hD
    refine lv_aload_n hx hb dX4_rusts_30 rfl (lv_at hl 1 rfl) ?_
    refine va_get (D := D) (ci := 4) (v := .ref (a 1)) (C := RX4) (T := TX4) (N := 16) hx hb hts i4 hown hK hP 0 rfl rfl 0 (by decide) f9 (fun _ h9 => h9) rfl dX4_rusts_31 ?_
    obtain ⟨r34, q34, h⟩ := bnd1_inv h
    refine kSI (n := 1) (As := [.ref (a 1)]) (rest := []) CF hl hK hP hD hS hA (c_X4_wholeSet l D cI (a 1) (upd ss (Int32.toNatClampNeg (r22 + (4 : Int32))) (-8 : Int32))  r34 q34) gX4_rusts_X4_wholeSet rfl dX4_rusts_34 (by decide +kernel) ⟨⟨rfl, rfl⟩, ⟨Nat.le_of_ble_eq_true rfl, Nat.le_of_ble_eq_true rfl⟩, Nat.zero_le _, Nat.zero_le _⟩ (JN.ro [1] rfl rfl) rfl rfl (Nat.le_of_ble_eq_true rfl) (fun H locs hP hD hS => ?_)
    obtain ⟨r37, q37, h⟩ := bnd1_inv h
    refine kSI (n := 1) (As := [.int r34]) (rest := []) CF hl hK hP hD hS hA (c_X4_bits l D cI   r34 r37 q37) gX4_rusts_X4_bits rfl dX4_rusts_37 (by decide +kernel) ⟨⟨rfl, rfl⟩, ⟨Nat.le_of_ble_eq_true rfl, Nat.le_of_ble_eq_true rfl⟩, Nat.zero_le _, Nat.zero_le _⟩ (JN.ro [] rfl rfl) rfl rfl (Nat.le_of_ble_eq_true rfl) (fun H locs hP hD hS => ?_)
    obtain ⟨rfl, rfl, rfl⟩ := rtv3 h
    exact rI hQ hx hb hr hlocks hAe hP hS rfl rfl dX4_rusts_40
  · replace h := fx_ite_f c8 h
    refine lv_aload_n hx hb dX4_rusts_11 rfl (lv_at hl 1 rfl) ?_
    refine lv_iload_n hx hb dX4_rusts_12 rfl (lv_at hl 0 rfl) ?_
    obtain ⟨r13, u13_re, q13, h⟩ := bnd2_inv h
    refine kVI (n := 1) (As := [.int r3]) (rest := []) CF hl hK hP hD hS hA (c_X4_no l D cI a ss mm im wa hi le ro re lm rm pl nu gi bg bm sd r3 r13 u13_re q13) gX4_rusts_X4_no rfl dX4_rusts_13 (by decide +kernel) ⟨⟨rfl, rfl⟩, ⟨Nat.le_of_ble_eq_true rfl, Nat.le_of_ble_eq_true rfl⟩, Nat.zero_le _, Nat.zero_le _⟩ (JN.whole (w1 := (cM a cI ss mm im wa hi le ro u13_re lm rm pl nu gi bg bm sd)) rfl) 0 rfl ⟨rfl, rfl⟩ rfl rfl (Nat.le_of_ble_eq_true rfl) (fun H locs hP hD hS => ?_)
    replace hP : va_P D vwCl (cM a cI ss mm im wa hi le ro u13_re lm rm pl nu gi bg bm sd) H := hP
    replace hD : va_D A (cM a cI ss mm im wa hi le ro u13_re lm rm pl nu gi bg bm sd) := hD
    obtain ⟨rfl, rfl, rfl⟩ := rtv3 h
    exact rI hQ hx hb hr hlocks hAe hP hS rfl rfl dX4_rusts_16
/-! X4_mendersOf -/
set_option maxHeartbeats 4000000 in
set_option maxRecDepth 100000 in
theorem c_X4_mendersOf (l : Launch) (D : va_G) (cI : ClassId) (a : Nat → Nat) (ss : (Nat → Int32)) (mm : (Nat → Int32)) (im : (Nat → Int32)) (wa : (Nat → Int32)) (hi : Int32) (le : (Nat → Int32)) (ro : (Nat → Int32)) (re : (Nat → Int32)) (lm : Int32) (rm : Int32) (pl : Int32) (nu : (Nat → Int32)) (gi : (Nat → Int32)) (bg : (Nat → Int32)) (bm : Int32) (sd : Int32) (p1 : Int32) (res : Int32) (h : M_X4_mendersOf ss p1 = some res) : mI l yX4_mendersOf wsX4_mendersOf { frames := 3, cells := 0, slots := 0, locals := 65 } D cI [.ref (a 0), .int p1] (cM a cI ss mm im wa hi le ro re lm rm pl nu gi bg bm sd) (cM a cI ss mm im wa hi le ro re lm rm pl nu gi bg bm sd) res := by
  intro sz
  refine mStart (cc := cX4_mendersOf) (maxL := 4) (ret := (some .int)) (own := RX4) (by decide) rfl rfl (Nat.le_of_ble_eq_true rfl) (lv := [(0, .ref (a 0)), (1, .int p1)]) rfl ?_
  intro p e s m args below meth c A ls Q H locs CF hr hlocks hK hP hD hS hA hAe hl hQ
  obtain ⟨hx, hb, hml, hown, hts⟩ := id CF
  have f9 := hts (.fieldLink RX4 9 "MendAnothersBreakingModel" "s" "[I") (List.mem_of_getElem? (i := 1) rfl)
  have i4 : ∀ w ∈ wsX40, w ∈ wsX4_mendersOf := fun w h => List.mem_cons_of_mem _ (List.mem_append_right _ h)
  have L4 : ∀ (n : Nat) (x1 : Int32) (x2 : Int32) (x3 : Int32), fuel (fun _ _ => none) (B_X4_mendersOf_4 x1 ss) n x2 x3 = some res → 
      ∀ (H : Heap) (locs : List Loc) (ls : Array Slot), va_P D vwCl (cM a cI ss mm im wa hi le ro re lm rm pl nu gi bg bm sd) H → va_D A (cM a cI ss mm im wa hi le ro re lm rm pl nu gi bg bm sd) → va_S A s.heap H locs → lv_has ls 4 [(0, .ref (a 0)), (1, .int x1), (2, .int x2), (3, .int x3)] → W p l e { frames := 3, cells := 0, slots := 0, locals := 65 } s m args below meth c H locs 0 0 Q (F0 m 4 ls []) := by
    intro n
    induction n with
    | zero =>
      intro x1 x2 x3 h
      exact nomatch (show (none : Option (Int32)) = some res from h)
    | succ n ih =>
      intro x1 x2 x3 h  H locs ls hP hD hS hl
      replace h : B_X4_mendersOf_4 x1 ss (fuel (fun _ _ => none) (B_X4_mendersOf_4 x1 ss) n) x2 x3 = some res := h
      unfold B_X4_mendersOf_4 at h
      refine lv_iload_n hx hb dX4_mendersOf_4 rfl (lv_at hl 3 rfl) ?_
      refine lv_aload_n hx hb dX4_mendersOf_5 rfl (lv_at hl 0 rfl) ?_
      refine va_get (D := D) (ci := 4) (v := .ref (a 1)) (C := RX4) (T := TX4) (N := 16) hx hb hts i4 hown hK hP 0 rfl rfl 0 (by decide) f9 (fun _ h9 => h9) rfl dX4_mendersOf_6 ?_
      refine lv_iconst (v := 0) hx hb dX4_mendersOf_9 (by decide) ?_
      refine ald (n := 61) (f := ss) (k := 0) hx hb hK hP 1 0 rfl rfl (fx_lit rfl) rfl dX4_mendersOf_10 ?_
      refine lv_icmp_ge (tgt := 42) hx hb dX4_mendersOf_11 (by decide) (fun c11 => ?_) (fun c11 => ?_)
      · replace h := fx_ite_t c11 h
        refine lv_iload_n hx hb dX4_mendersOf_42 rfl (lv_at hl 2 rfl) ?_
        obtain rfl := rtv1 h
        exact rI hQ hx hb hr hlocks hAe hP hS rfl rfl dX4_mendersOf_43
      · replace h := fx_ite_f c11 h
        refine lv_iload_n hx hb dX4_mendersOf_14 rfl (lv_at hl 2 rfl) ?_
        refine lv_aload_n hx hb dX4_mendersOf_15 rfl (lv_at hl 0 rfl) ?_
        refine va_get (D := D) (ci := 4) (v := .ref (a 1)) (C := RX4) (T := TX4) (N := 16) hx hb hts i4 hown hK hP 0 rfl rfl 0 (by decide) f9 (fun _ h9 => h9) rfl dX4_mendersOf_16 ?_
        refine lv_iload_n hx hb dX4_mendersOf_19 rfl (lv_at hl 3 rfl) ?_
        refine lv_iload_n hx hb dX4_mendersOf_20 rfl (lv_at hl 1 rfl) ?_
        obtain ⟨r21, q21, h⟩ := bnd1_inv h
        refine kSI (n := 3) (As := [.ref (a 1), .int x3, .int x1]) (rest := [.int x2]) CF hl hK hP hD hS hA (c_X4_isAble l D cI (a 1) ss x3 x1 r21 q21) gX4_mendersOf_X4_isAble rfl dX4_mendersOf_21 (by decide +kernel) ⟨⟨rfl, rfl⟩, ⟨Nat.le_of_ble_eq_true rfl, Nat.le_of_ble_eq_true rfl⟩, Nat.zero_le _, Nat.zero_le _⟩ (JN.ro [1] rfl rfl) rfl rfl (Nat.le_of_ble_eq_true rfl) (fun H locs hP hD hS => ?_)
        refine lv_if_eq (tgt := 33) hx hb dX4_mendersOf_24 (by decide) (fun c24 => ?_) (fun c24 => ?_)
        · replace h := fx_ite_t c24 h
          refine lv_iconst (v := 0) hx hb dX4_mendersOf_33 (by decide) ?_
          refine lv_ior hx hb dX4_mendersOf_34 ?_
          refine lv_istore_n (lv' := [(2, .int (x2 ||| (0 : Int32))), (0, .ref (a 0)), (1, .int x1), (3, .int x3)]) hx hb dX4_mendersOf_35 rfl hl (by decide) rfl (fun ls hl => ?_)
          refine lv_iinc (v := (x3 + 1)) (lv' := [(3, .int (x3 + 1)), (2, .int (x2 ||| (0 : Int32))), (0, .ref (a 0)), (1, .int x1)]) hx hb dX4_mendersOf_36 hl (k := 3) rfl (by first | rfl | decide) (by decide) rfl (fun ls hl => ?_)
          refine lv_goto (tgt := 4) hx hb dX4_mendersOf_39 (by decide) ?_
          exact ih _ _ _ h  _ _ _ hP hD hS (lv_sub hl [2, 3, 1, 0] rfl)
        · replace h := fx_ite_f c24 h
          refine lv_iconst (v := 1) hx hb dX4_mendersOf_27 (by decide) ?_
          refine lv_iload_n hx hb dX4_mendersOf_28 rfl (lv_at hl 3 rfl) ?_
          refine lv_ishl hx hb dX4_mendersOf_29 ?_
          refine lv_goto (tgt := 34) hx hb dX4_mendersOf_30 (by decide) ?_
          refine lv_ior hx hb dX4_mendersOf_34 ?_
          refine lv_istore_n (lv' := [(2, .int (x2 ||| ((1 : Int32) <<< (x3 &&& 31)))), (0, .ref (a 0)), (1, .int x1), (3, .int x3)]) hx hb dX4_mendersOf_35 rfl hl (by decide) rfl (fun ls hl => ?_)
          refine lv_iinc (v := (x3 + 1)) (lv' := [(3, .int (x3 + 1)), (2, .int (x2 ||| ((1 : Int32) <<< (x3 &&& 31)))), (0, .ref (a 0)), (1, .int x1)]) hx hb dX4_mendersOf_36 hl (k := 3) rfl (by first | rfl | decide) (by decide) rfl (fun ls hl => ?_)
          refine lv_goto (tgt := 4) hx hb dX4_mendersOf_39 (by decide) ?_
          exact ih _ _ _ h  _ _ _ hP hD hS (lv_sub hl [2, 3, 1, 0] rfl)
  unfold M_X4_mendersOf at h
  refine lv_iconst (v := 0) hx hb dX4_mendersOf_0 (by decide) ?_
  refine lv_istore_n (lv' := [(2, .int (0 : Int32)), (0, .ref (a 0)), (1, .int p1)]) hx hb dX4_mendersOf_1 rfl hl (by decide) rfl (fun ls hl => ?_)
  refine lv_iconst (v := 0) hx hb dX4_mendersOf_2 (by decide) ?_
  refine lv_istore_n (lv' := [(3, .int (0 : Int32)), (2, .int (0 : Int32)), (0, .ref (a 0)), (1, .int p1)]) hx hb dX4_mendersOf_3 rfl hl (by decide) rfl (fun ls hl => ?_)
  exact L4 FU _ _ _ h  _ _ _ hP hD hS (lv_sub hl [2, 3, 1, 0] rfl)
/-! X4_says -/
set_option maxHeartbeats 4000000 in
set_option maxRecDepth 100000 in
theorem c_X4_says (l : Launch) (D : va_G) (cI : ClassId) (a : Nat → Nat) (ss : (Nat → Int32)) (mm : (Nat → Int32)) (im : (Nat → Int32)) (wa : (Nat → Int32)) (hi : Int32) (le : (Nat → Int32)) (ro : (Nat → Int32)) (re : (Nat → Int32)) (lm : Int32) (rm : Int32) (pl : Int32) (nu : (Nat → Int32)) (gi : (Nat → Int32)) (bg : (Nat → Int32)) (bm : Int32) (sd : Int32) (p1 : Int32) (p2 : Int32) (res : Int32) (u_ss : (Nat → Int32)) (u_re : (Nat → Int32)) (h : M_X4_says ss re p1 p2 = some (res, u_ss, u_re)) : mI l yX4_says wsX4_says { frames := 4, cells := 0, slots := 0, locals := 88 } D cI [.ref (a 0), .int p1, .int p2] (cM a cI ss mm im wa hi le ro re lm rm pl nu gi bg bm sd) (cM a cI u_ss mm im wa hi le ro u_re lm rm pl nu gi bg bm sd) res := by
  intro sz
  refine mStart (cc := cX4_says) (maxL := 3) (ret := (some .int)) (own := RX4) (by decide) rfl rfl (Nat.le_of_ble_eq_true rfl) (lv := [(0, .ref (a 0)), (1, .int p1), (2, .int p2)]) rfl ?_
  intro p e s m args below meth c A ls Q H locs CF hr hlocks hK hP hD hS hA hAe hl hQ
  obtain ⟨hx, hb, hml, hown, hts⟩ := id CF
  have f9 := hts (.fieldLink RX4 9 "MendAnothersBreakingModel" "s" "[I") (List.mem_of_getElem? (i := 1) rfl)
  have i4 : ∀ w ∈ wsX40, w ∈ wsX4_says := fun w h => List.mem_cons_of_mem _ (List.mem_append_right _ h)
  unfold M_X4_says at h
  refine lv_aload_n hx hb dX4_says_0 rfl (lv_at hl 0 rfl) ?_
  refine lv_iload_n hx hb dX4_says_1 rfl (lv_at hl 1 rfl) ?_
  obtain ⟨r2, q2, h⟩ := bnd1_inv h
  refine kVI (n := 1) (As := [.int p1]) (rest := []) CF hl hK hP hD hS hA (c_X4_isPerson l D cI a ss mm im wa hi le ro re lm rm pl nu gi bg bm sd p1 r2 q2) gX4_says_X4_isPerson rfl dX4_says_2 (by decide +kernel) ⟨⟨rfl, rfl⟩, ⟨Nat.le_of_ble_eq_true rfl, Nat.le_of_ble_eq_true rfl⟩, Nat.zero_le _, Nat.zero_le _⟩ (JN.whole rfl) 0 rfl ⟨rfl, rfl⟩ rfl rfl (Nat.le_of_ble_eq_true rfl) (fun H locs hP hD hS => ?_)
  replace hP : va_P D vwCl (cM a cI ss mm im wa hi le ro re lm rm pl nu gi bg bm sd) H := hP
  replace hD : va_D A (cM a cI ss mm im wa hi le ro re lm rm pl nu gi bg bm sd) := hD
  refine lv_if_eq (tgt := 16) hx hb dX4_says_5 (by decide) (fun c5 => ?_) (fun c5 => ?_)
  · replace h := fx_ite_t c5 h
    refine lv_aload_n hx hb dX4_says_16 rfl (lv_at hl 0 rfl) ?_
    refine lv_iconst (v := (-1)) hx hb dX4_says_17 (by decide) ?_
    obtain ⟨r18, u18_re, q18, h⟩ := bnd2_inv h
    refine kVI (n := 1) (As := [.int (-1 : Int32)]) (rest := []) CF hl hK hP hD hS hA (c_X4_no l D cI a ss mm im wa hi le ro re lm rm pl nu gi bg bm sd (-1 : Int32) r18 u18_re q18) gX4_says_X4_no rfl dX4_says_18 (by decide +kernel) ⟨⟨rfl, rfl⟩, ⟨Nat.le_of_ble_eq_true rfl, Nat.le_of_ble_eq_true rfl⟩, Nat.zero_le _, Nat.zero_le _⟩ (JN.whole (w1 := (cM a cI ss mm im wa hi le ro u18_re lm rm pl nu gi bg bm sd)) rfl) 0 rfl ⟨rfl, rfl⟩ rfl rfl (Nat.le_of_ble_eq_true rfl) (fun H locs hP hD hS => ?_)
    replace hP : va_P D vwCl (cM a cI ss mm im wa hi le ro u18_re lm rm pl nu gi bg bm sd) H := hP
    replace hD : va_D A (cM a cI ss mm im wa hi le ro u18_re lm rm pl nu gi bg bm sd) := hD
    obtain ⟨rfl, rfl, rfl⟩ := rtv3 h
    exact rI hQ hx hb hr hlocks hAe hP hS rfl rfl dX4_says_21
  · replace h := fx_ite_f c5 h
    refine lv_aload_n hx hb dX4_says_8 rfl (lv_at hl 0 rfl) ?_
    refine lv_iload_n hx hb dX4_says_9 rfl (lv_at hl 2 rfl) ?_
    obtain ⟨r10, q10, h⟩ := bnd1_inv h
    refine kVI (n := 1) (As := [.int p2]) (rest := []) CF hl hK hP hD hS hA (c_X4_isThing l D cI a ss mm im wa hi le ro re lm rm pl nu gi bg bm sd p2 r10 q10) gX4_says_X4_isThing rfl dX4_says_10 (by decide +kernel) ⟨⟨rfl, rfl⟩, ⟨Nat.le_of_ble_eq_true rfl, Nat.le_of_ble_eq_true rfl⟩, Nat.zero_le _, Nat.zero_le _⟩ (JN.whole rfl) 0 rfl ⟨rfl, rfl⟩ rfl rfl (Nat.le_of_ble_eq_true rfl) (fun H locs hP hD hS => ?_)
    replace hP : va_P D vwCl (cM a cI ss mm im wa hi le ro re lm rm pl nu gi bg bm sd) H := hP
    replace hD : va_D A (cM a cI ss mm im wa hi le ro re lm rm pl nu gi bg bm sd) := hD
    refine lv_if_ne (tgt := 22) hx hb dX4_says_13 (by decide) (fun c13 => ?_) (fun c13 => ?_)
    · replace h := fx_ite_f c13 h
      refine lv_aload_n hx hb dX4_says_22 rfl (lv_at hl 0 rfl) ?_
      refine va_get (D := D) (ci := 4) (v := .ref (a 1)) (C := RX4) (T := TX4) (N := 16) hx hb hts i4 hown hK hP 0 rfl rfl 0 (by decide) f9 (fun _ h9 => h9) rfl dX4_says_23 ?_
      refine lv_iload_n hx hb dX4_says_26 rfl (lv_at hl 2 rfl) ?_
      obtain ⟨r27, q27, h⟩ := bnd1_inv h
      refine kSI (n := 1) (As := [.int p2]) (rest := [.ref (a 1)]) CF hl hK hP hD hS hA (c_X4_ofT l D cI   p2 r27 q27) gX4_says_X4_ofT rfl dX4_says_27 (by decide +kernel) ⟨⟨rfl, rfl⟩, ⟨Nat.le_of_ble_eq_true rfl, Nat.le_of_ble_eq_true rfl⟩, Nat.zero_le _, Nat.zero_le _⟩ (JN.ro [] rfl rfl) rfl rfl (Nat.le_of_ble_eq_true rfl) (fun H locs hP hD hS => ?_)
      refine lv_iconst (v := 4) hx hb dX4_says_30 (by decide) ?_
      refine lv_iadd hx hb dX4_says_31 ?_
      obtain ⟨g32, h⟩ := chk_inv h
      refine va_iald (n := 61) (f := ss) hx hb hK hP 1 0 rfl rfl g32 dX4_says_32 ?_
      refine lv_bipush (v := (-8)) hx hb dX4_says_33 (by decide) ?_
      refine lv_icmp_eq (tgt := 45) hx hb dX4_says_35 (by decide) (fun c35 => ?_) (fun c35 => ?_)
      · replace h := fx_ite_t c35 h
        refine lv_aload_n hx hb dX4_says_45 rfl (lv_at hl 0 rfl) ?_
        refine va_get (D := D) (ci := 4) (v := .ref (a 1)) (C := RX4) (T := TX4) (N := 16) hx hb hts i4 hown hK hP 0 rfl rfl 0 (by decide) f9 (fun _ h9 => h9) rfl dX4_says_46 ?_
        refine lv_iload_n hx hb dX4_says_49 rfl (lv_at hl 2 rfl) ?_
        obtain ⟨r50, q50, h⟩ := bnd1_inv h
        refine kSI (n := 1) (As := [.int p2]) (rest := [.ref (a 1)]) CF hl hK hP hD hS hA (c_X4_ofT l D cI   p2 r50 q50) gX4_says_X4_ofT rfl dX4_says_50 (by decide +kernel) ⟨⟨rfl, rfl⟩, ⟨Nat.le_of_ble_eq_true rfl, Nat.le_of_ble_eq_true rfl⟩, Nat.zero_le _, Nat.zero_le _⟩ (JN.ro [] rfl rfl) rfl rfl (Nat.le_of_ble_eq_true rfl) (fun H locs hP hD hS => ?_)
        refine lv_iconst (v := 4) hx hb dX4_says_53 (by decide) ?_
        refine lv_iadd hx hb dX4_says_54 ?_
        refine lv_iload_n hx hb dX4_says_55 rfl (lv_at hl 1 rfl) ?_
        obtain ⟨g56, h⟩ := chk_inv h
        refine va_iast (n := 61) (f := ss) hx hb hK hP hD hS 1 0 rfl rfl g56 dX4_says_56 (fun H locs hP hD hS => ?_)
        replace hP : va_P D vwCl (cM a cI (upd ss (Int32.toNatClampNeg (r50 + (4 : Int32))) p1) mm im wa hi le ro re lm rm pl nu gi bg bm sd) H := hP
        replace hD : va_D A (cM a cI (upd ss (Int32.toNatClampNeg (r50 + (4 : Int32))) p1) mm im wa hi le ro re lm rm pl nu gi bg bm sd) := hD
        refine lv_aload_n hx hb dX4_says_57 rfl (lv_at hl 0 rfl) ?_
        refine lv_iload_n hx hb dX4_says_58 rfl (lv_at hl 2 rfl) ?_
        obtain ⟨r59, q59, h⟩ := bnd1_inv h
        refine kVI (n := 1) (As := [.int p2]) (rest := []) CF hl hK hP hD hS hA (c_X4_mendersOf l D cI a (upd ss (Int32.toNatClampNeg (r50 + (4 : Int32))) p1) mm im wa hi le ro re lm rm pl nu gi bg bm sd p2 r59 q59) gX4_says_X4_mendersOf rfl dX4_says_59 (by decide +kernel) ⟨⟨rfl, rfl⟩, ⟨Nat.le_of_ble_eq_true rfl, Nat.le_of_ble_eq_true rfl⟩, Nat.zero_le _, Nat.zero_le _⟩ (JN.whole rfl) 0 rfl ⟨rfl, rfl⟩ rfl rfl (Nat.le_of_ble_eq_true rfl) (fun H locs hP hD hS => ?_)
        replace hP : va_P D vwCl (cM a cI (upd ss (Int32.toNatClampNeg (r50 + (4 : Int32))) p1) mm im wa hi le ro re lm rm pl nu gi bg bm sd) H := hP
        replace hD : va_D A (cM a cI (upd ss (Int32.toNatClampNeg (r50 + (4 : Int32))) p1) mm im wa hi le ro re lm rm pl nu gi bg bm sd) := hD
        refine lv_iconst (v := 1) hx hb dX4_says_62 (by decide) ?_
        refine lv_iload_n hx hb dX4_says_63 rfl (lv_at hl 1 rfl) ?_
        refine lv_ishl hx hb dX4_says_64 ?_
        refine lv_iconst (v := (-1)) hx hb dX4_says_65 (by decide) ?_
        refine lv_ixor hx hb dX4_says_66 ?_
        refine lv_iand hx hb dX4_says_67 ?_
        obtain ⟨r68, q68, h⟩ := bnd1_inv h
        refine kSI (n := 1) (As := [.int (r59 &&& (((1 : Int32) <<< (p1 &&& 31)) ^^^ (-1 : Int32)))]) (rest := []) CF hl hK hP hD hS hA (c_X4_bits l D cI   (r59 &&& (((1 : Int32) <<< (p1 &&& 31)) ^^^ (-1 : Int32))) r68 q68) gX4_says_X4_bits rfl dX4_says_68 (by decide +kernel) ⟨⟨rfl, rfl⟩, ⟨Nat.le_of_ble_eq_true rfl, Nat.le_of_ble_eq_true rfl⟩, Nat.zero_le _, Nat.zero_le _⟩ (JN.ro [] rfl rfl) rfl rfl (Nat.le_of_ble_eq_true rfl) (fun H locs hP hD hS => ?_)
        obtain ⟨rfl, rfl, rfl⟩ := rtv3 h
        exact rI hQ hx hb hr hlocks hAe hP hS rfl rfl dX4_says_71
      · replace h := fx_ite_f c35 h
        refine lv_aload_n hx hb dX4_says_38 rfl (lv_at hl 0 rfl) ?_
        refine lv_bipush (v := (-3)) hx hb dX4_says_39 (by decide) ?_
        obtain ⟨r41, u41_re, q41, h⟩ := bnd2_inv h
        refine kVI (n := 1) (As := [.int (-3 : Int32)]) (rest := []) CF hl hK hP hD hS hA (c_X4_no l D cI a ss mm im wa hi le ro re lm rm pl nu gi bg bm sd (-3 : Int32) r41 u41_re q41) gX4_says_X4_no rfl dX4_says_41 (by decide +kernel) ⟨⟨rfl, rfl⟩, ⟨Nat.le_of_ble_eq_true rfl, Nat.le_of_ble_eq_true rfl⟩, Nat.zero_le _, Nat.zero_le _⟩ (JN.whole (w1 := (cM a cI ss mm im wa hi le ro u41_re lm rm pl nu gi bg bm sd)) rfl) 0 rfl ⟨rfl, rfl⟩ rfl rfl (Nat.le_of_ble_eq_true rfl) (fun H locs hP hD hS => ?_)
        replace hP : va_P D vwCl (cM a cI ss mm im wa hi le ro u41_re lm rm pl nu gi bg bm sd) H := hP
        replace hD : va_D A (cM a cI ss mm im wa hi le ro u41_re lm rm pl nu gi bg bm sd) := hD
        obtain ⟨rfl, rfl, rfl⟩ := rtv3 h
        exact rI hQ hx hb hr hlocks hAe hP hS rfl rfl dX4_says_44
    · replace h := fx_ite_t c13 h
      refine lv_aload_n hx hb dX4_says_16 rfl (lv_at hl 0 rfl) ?_
      refine lv_iconst (v := (-1)) hx hb dX4_says_17 (by decide) ?_
      obtain ⟨r18, u18_re, q18, h⟩ := bnd2_inv h
      refine kVI (n := 1) (As := [.int (-1 : Int32)]) (rest := []) CF hl hK hP hD hS hA (c_X4_no l D cI a ss mm im wa hi le ro re lm rm pl nu gi bg bm sd (-1 : Int32) r18 u18_re q18) gX4_says_X4_no rfl dX4_says_18 (by decide +kernel) ⟨⟨rfl, rfl⟩, ⟨Nat.le_of_ble_eq_true rfl, Nat.le_of_ble_eq_true rfl⟩, Nat.zero_le _, Nat.zero_le _⟩ (JN.whole (w1 := (cM a cI ss mm im wa hi le ro u18_re lm rm pl nu gi bg bm sd)) rfl) 0 rfl ⟨rfl, rfl⟩ rfl rfl (Nat.le_of_ble_eq_true rfl) (fun H locs hP hD hS => ?_)
      replace hP : va_P D vwCl (cM a cI ss mm im wa hi le ro u18_re lm rm pl nu gi bg bm sd) H := hP
      replace hD : va_D A (cM a cI ss mm im wa hi le ro u18_re lm rm pl nu gi bg bm sd) := hD
      obtain ⟨rfl, rfl, rfl⟩ := rtv3 h
      exact rI hQ hx hb hr hlocks hAe hP hS rfl rfl dX4_says_21
/-! X4_mends -/
set_option maxHeartbeats 4000000 in
set_option maxRecDepth 100000 in
theorem c_X4_mends (l : Launch) (D : va_G) (cI : ClassId) (a : Nat → Nat) (ss : (Nat → Int32)) (mm : (Nat → Int32)) (im : (Nat → Int32)) (wa : (Nat → Int32)) (hi : Int32) (le : (Nat → Int32)) (ro : (Nat → Int32)) (re : (Nat → Int32)) (lm : Int32) (rm : Int32) (pl : Int32) (nu : (Nat → Int32)) (gi : (Nat → Int32)) (bg : (Nat → Int32)) (bm : Int32) (sd : Int32) (p1 : Int32) (p2 : Int32) (res : Int32) (u_ss : (Nat → Int32)) (u_re : (Nat → Int32)) (h : M_X4_mends ss re p1 p2 = some (res, u_ss, u_re)) : mI l yX4_mends wsX4_mends { frames := 4, cells := 0, slots := 0, locals := 87 } D cI [.ref (a 0), .int p1, .int p2] (cM a cI ss mm im wa hi le ro re lm rm pl nu gi bg bm sd) (cM a cI u_ss mm im wa hi le ro u_re lm rm pl nu gi bg bm sd) res := by
  intro sz
  refine mStart (cc := cX4_mends) (maxL := 3) (ret := (some .int)) (own := RX4) (by decide) rfl rfl (Nat.le_of_ble_eq_true rfl) (lv := [(0, .ref (a 0)), (1, .int p1), (2, .int p2)]) rfl ?_
  intro p e s m args below meth c A ls Q H locs CF hr hlocks hK hP hD hS hA hAe hl hQ
  obtain ⟨hx, hb, hml, hown, hts⟩ := id CF
  have f9 := hts (.fieldLink RX4 9 "MendAnothersBreakingModel" "s" "[I") (List.mem_of_getElem? (i := 1) rfl)
  have i4 : ∀ w ∈ wsX40, w ∈ wsX4_mends := fun w h => List.mem_cons_of_mem _ (List.mem_append_right _ h)
  unfold M_X4_mends at h
  refine lv_aload_n hx hb dX4_mends_0 rfl (lv_at hl 0 rfl) ?_
  refine lv_iload_n hx hb dX4_mends_1 rfl (lv_at hl 1 rfl) ?_
  obtain ⟨r2, q2, h⟩ := bnd1_inv h
  refine kVI (n := 1) (As := [.int p1]) (rest := []) CF hl hK hP hD hS hA (c_X4_isPerson l D cI a ss mm im wa hi le ro re lm rm pl nu gi bg bm sd p1 r2 q2) gX4_mends_X4_isPerson rfl dX4_mends_2 (by decide +kernel) ⟨⟨rfl, rfl⟩, ⟨Nat.le_of_ble_eq_true rfl, Nat.le_of_ble_eq_true rfl⟩, Nat.zero_le _, Nat.zero_le _⟩ (JN.whole rfl) 0 rfl ⟨rfl, rfl⟩ rfl rfl (Nat.le_of_ble_eq_true rfl) (fun H locs hP hD hS => ?_)
  replace hP : va_P D vwCl (cM a cI ss mm im wa hi le ro re lm rm pl nu gi bg bm sd) H := hP
  replace hD : va_D A (cM a cI ss mm im wa hi le ro re lm rm pl nu gi bg bm sd) := hD
  refine lv_if_eq (tgt := 16) hx hb dX4_mends_5 (by decide) (fun c5 => ?_) (fun c5 => ?_)
  · replace h := fx_ite_t c5 h
    refine lv_aload_n hx hb dX4_mends_16 rfl (lv_at hl 0 rfl) ?_
    refine lv_iconst (v := (-1)) hx hb dX4_mends_17 (by decide) ?_
    obtain ⟨r18, u18_re, q18, h⟩ := bnd2_inv h
    refine kVI (n := 1) (As := [.int (-1 : Int32)]) (rest := []) CF hl hK hP hD hS hA (c_X4_no l D cI a ss mm im wa hi le ro re lm rm pl nu gi bg bm sd (-1 : Int32) r18 u18_re q18) gX4_mends_X4_no rfl dX4_mends_18 (by decide +kernel) ⟨⟨rfl, rfl⟩, ⟨Nat.le_of_ble_eq_true rfl, Nat.le_of_ble_eq_true rfl⟩, Nat.zero_le _, Nat.zero_le _⟩ (JN.whole (w1 := (cM a cI ss mm im wa hi le ro u18_re lm rm pl nu gi bg bm sd)) rfl) 0 rfl ⟨rfl, rfl⟩ rfl rfl (Nat.le_of_ble_eq_true rfl) (fun H locs hP hD hS => ?_)
    replace hP : va_P D vwCl (cM a cI ss mm im wa hi le ro u18_re lm rm pl nu gi bg bm sd) H := hP
    replace hD : va_D A (cM a cI ss mm im wa hi le ro u18_re lm rm pl nu gi bg bm sd) := hD
    obtain ⟨rfl, rfl, rfl⟩ := rtv3 h
    exact rI hQ hx hb hr hlocks hAe hP hS rfl rfl dX4_mends_21
  · replace h := fx_ite_f c5 h
    refine lv_aload_n hx hb dX4_mends_8 rfl (lv_at hl 0 rfl) ?_
    refine lv_iload_n hx hb dX4_mends_9 rfl (lv_at hl 2 rfl) ?_
    obtain ⟨r10, q10, h⟩ := bnd1_inv h
    refine kVI (n := 1) (As := [.int p2]) (rest := []) CF hl hK hP hD hS hA (c_X4_isThing l D cI a ss mm im wa hi le ro re lm rm pl nu gi bg bm sd p2 r10 q10) gX4_mends_X4_isThing rfl dX4_mends_10 (by decide +kernel) ⟨⟨rfl, rfl⟩, ⟨Nat.le_of_ble_eq_true rfl, Nat.le_of_ble_eq_true rfl⟩, Nat.zero_le _, Nat.zero_le _⟩ (JN.whole rfl) 0 rfl ⟨rfl, rfl⟩ rfl rfl (Nat.le_of_ble_eq_true rfl) (fun H locs hP hD hS => ?_)
    replace hP : va_P D vwCl (cM a cI ss mm im wa hi le ro re lm rm pl nu gi bg bm sd) H := hP
    replace hD : va_D A (cM a cI ss mm im wa hi le ro re lm rm pl nu gi bg bm sd) := hD
    refine lv_if_ne (tgt := 22) hx hb dX4_mends_13 (by decide) (fun c13 => ?_) (fun c13 => ?_)
    · replace h := fx_ite_f c13 h
      refine lv_aload_n hx hb dX4_mends_22 rfl (lv_at hl 0 rfl) ?_
      refine va_get (D := D) (ci := 4) (v := .ref (a 1)) (C := RX4) (T := TX4) (N := 16) hx hb hts i4 hown hK hP 0 rfl rfl 0 (by decide) f9 (fun _ h9 => h9) rfl dX4_mends_23 ?_
      refine lv_iload_n hx hb dX4_mends_26 rfl (lv_at hl 1 rfl) ?_
      refine lv_iload_n hx hb dX4_mends_27 rfl (lv_at hl 2 rfl) ?_
      obtain ⟨r28, q28, h⟩ := bnd1_inv h
      refine kSI (n := 3) (As := [.ref (a 1), .int p1, .int p2]) (rest := []) CF hl hK hP hD hS hA (c_X4_mayMend l D cI (a 1) ss p1 p2 r28 q28) gX4_mends_X4_mayMend rfl dX4_mends_28 (by decide +kernel) ⟨⟨rfl, rfl⟩, ⟨Nat.le_of_ble_eq_true rfl, Nat.le_of_ble_eq_true rfl⟩, Nat.zero_le _, Nat.zero_le _⟩ (JN.ro [1] rfl rfl) rfl rfl (Nat.le_of_ble_eq_true rfl) (fun H locs hP hD hS => ?_)
      refine lv_if_ne (tgt := 41) hx hb dX4_mends_31 (by decide) (fun c31 => ?_) (fun c31 => ?_)
      · replace h := fx_ite_f c31 h
        refine lv_aload_n hx hb dX4_mends_41 rfl (lv_at hl 0 rfl) ?_
        refine va_get (D := D) (ci := 4) (v := .ref (a 1)) (C := RX4) (T := TX4) (N := 16) hx hb hts i4 hown hK hP 0 rfl rfl 0 (by decide) f9 (fun _ h9 => h9) rfl dX4_mends_42 ?_
        refine lv_iload_n hx hb dX4_mends_45 rfl (lv_at hl 1 rfl) ?_
        refine lv_iload_n hx hb dX4_mends_46 rfl (lv_at hl 2 rfl) ?_
        obtain ⟨u47_ss, q47, h⟩ := bnd1_inv h
        refine kSV (n := 3) (As := [.ref (a 1), .int p1, .int p2]) (rest := []) CF hl hK hP hD hS hA (c_X4_mendsIn l D cI (a 1) ss p1 p2 u47_ss q47) gX4_mends_X4_mendsIn rfl dX4_mends_47 (by decide +kernel) ⟨⟨rfl, rfl⟩, ⟨Nat.le_of_ble_eq_true rfl, Nat.le_of_ble_eq_true rfl⟩, Nat.zero_le _, Nat.zero_le _⟩ (JN.sub (wst' := (cM a cI u47_ss mm im wa hi le ro re lm rm pl nu gi bg bm sd)) [1] rfl rfl rfl rfl) rfl rfl (Nat.le_of_ble_eq_true rfl) (fun H locs hP hD hS => ?_)
        replace hP : va_P D vwCl (cM a cI u47_ss mm im wa hi le ro re lm rm pl nu gi bg bm sd) H := hP
        replace hD : va_D A (cM a cI u47_ss mm im wa hi le ro re lm rm pl nu gi bg bm sd) := hD
        refine lv_aload_n hx hb dX4_mends_50 rfl (lv_at hl 0 rfl) ?_
        refine va_get (D := D) (ci := 4) (v := .ref (a 1)) (C := RX4) (T := TX4) (N := 16) hx hb hts i4 hown hK hP 0 rfl rfl 0 (by decide) f9 (fun _ h9 => h9) rfl dX4_mends_51 ?_
        obtain ⟨r54, q54, h⟩ := bnd1_inv h
        refine kSI (n := 1) (As := [.ref (a 1)]) (rest := []) CF hl hK hP hD hS hA (c_X4_wholeSet l D cI (a 1) u47_ss  r54 q54) gX4_mends_X4_wholeSet rfl dX4_mends_54 (by decide +kernel) ⟨⟨rfl, rfl⟩, ⟨Nat.le_of_ble_eq_true rfl, Nat.le_of_ble_eq_true rfl⟩, Nat.zero_le _, Nat.zero_le _⟩ (JN.ro [1] rfl rfl) rfl rfl (Nat.le_of_ble_eq_true rfl) (fun H locs hP hD hS => ?_)
        obtain ⟨r57, q57, h⟩ := bnd1_inv h
        refine kSI (n := 1) (As := [.int r54]) (rest := []) CF hl hK hP hD hS hA (c_X4_bits l D cI   r54 r57 q57) gX4_mends_X4_bits rfl dX4_mends_57 (by decide +kernel) ⟨⟨rfl, rfl⟩, ⟨Nat.le_of_ble_eq_true rfl, Nat.le_of_ble_eq_true rfl⟩, Nat.zero_le _, Nat.zero_le _⟩ (JN.ro [] rfl rfl) rfl rfl (Nat.le_of_ble_eq_true rfl) (fun H locs hP hD hS => ?_)
        obtain ⟨rfl, rfl, rfl⟩ := rtv3 h
        exact rI hQ hx hb hr hlocks hAe hP hS rfl rfl dX4_mends_60
      · replace h := fx_ite_t c31 h
        refine lv_aload_n hx hb dX4_mends_34 rfl (lv_at hl 0 rfl) ?_
        refine lv_bipush (v := (-3)) hx hb dX4_mends_35 (by decide) ?_
        obtain ⟨r37, u37_re, q37, h⟩ := bnd2_inv h
        refine kVI (n := 1) (As := [.int (-3 : Int32)]) (rest := []) CF hl hK hP hD hS hA (c_X4_no l D cI a ss mm im wa hi le ro re lm rm pl nu gi bg bm sd (-3 : Int32) r37 u37_re q37) gX4_mends_X4_no rfl dX4_mends_37 (by decide +kernel) ⟨⟨rfl, rfl⟩, ⟨Nat.le_of_ble_eq_true rfl, Nat.le_of_ble_eq_true rfl⟩, Nat.zero_le _, Nat.zero_le _⟩ (JN.whole (w1 := (cM a cI ss mm im wa hi le ro u37_re lm rm pl nu gi bg bm sd)) rfl) 0 rfl ⟨rfl, rfl⟩ rfl rfl (Nat.le_of_ble_eq_true rfl) (fun H locs hP hD hS => ?_)
        replace hP : va_P D vwCl (cM a cI ss mm im wa hi le ro u37_re lm rm pl nu gi bg bm sd) H := hP
        replace hD : va_D A (cM a cI ss mm im wa hi le ro u37_re lm rm pl nu gi bg bm sd) := hD
        obtain ⟨rfl, rfl, rfl⟩ := rtv3 h
        exact rI hQ hx hb hr hlocks hAe hP hS rfl rfl dX4_mends_40
    · replace h := fx_ite_t c13 h
      refine lv_aload_n hx hb dX4_mends_16 rfl (lv_at hl 0 rfl) ?_
      refine lv_iconst (v := (-1)) hx hb dX4_mends_17 (by decide) ?_
      obtain ⟨r18, u18_re, q18, h⟩ := bnd2_inv h
      refine kVI (n := 1) (As := [.int (-1 : Int32)]) (rest := []) CF hl hK hP hD hS hA (c_X4_no l D cI a ss mm im wa hi le ro re lm rm pl nu gi bg bm sd (-1 : Int32) r18 u18_re q18) gX4_mends_X4_no rfl dX4_mends_18 (by decide +kernel) ⟨⟨rfl, rfl⟩, ⟨Nat.le_of_ble_eq_true rfl, Nat.le_of_ble_eq_true rfl⟩, Nat.zero_le _, Nat.zero_le _⟩ (JN.whole (w1 := (cM a cI ss mm im wa hi le ro u18_re lm rm pl nu gi bg bm sd)) rfl) 0 rfl ⟨rfl, rfl⟩ rfl rfl (Nat.le_of_ble_eq_true rfl) (fun H locs hP hD hS => ?_)
      replace hP : va_P D vwCl (cM a cI ss mm im wa hi le ro u18_re lm rm pl nu gi bg bm sd) H := hP
      replace hD : va_D A (cM a cI ss mm im wa hi le ro u18_re lm rm pl nu gi bg bm sd) := hD
      obtain ⟨rfl, rfl, rfl⟩ := rtv3 h
      exact rI hQ hx hb hr hlocks hAe hP hS rfl rfl dX4_mends_21
/-! X4_wrongBy -/
set_option maxHeartbeats 4000000 in
set_option maxRecDepth 100000 in
theorem c_X4_wrongBy (l : Launch) (D : va_G) (cI : ClassId)   (p0 : Int32) (p1 : Int32) (res : Int32) (h : M_X4_wrongBy p0 p1 = some res) : mI l yX4_wrongBy wsX4_wrongBy { frames := 0, cells := 0, slots := 0, locals := 0 } D cI [.int p0, .int p1] [] [] res := by
  intro sz
  refine mStart (cc := cX4_wrongBy) (maxL := 2) (ret := (some .int)) (own := RX4) (by decide) rfl rfl (Nat.le_of_ble_eq_true rfl) (lv := [(0, .int p0), (1, .int p1)]) rfl ?_
  intro p e s m args below meth c A ls Q H locs CF hr hlocks hK hP hD hS hA hAe hl hQ
  obtain ⟨hx, hb, hml, hown, hts⟩ := id CF
  unfold M_X4_wrongBy at h
  refine lv_iload_n hx hb dX4_wrongBy_0 rfl (lv_at hl 0 rfl) ?_
  refine lv_if_ge (tgt := 9) hx hb dX4_wrongBy_1 (by decide) (fun c1 => ?_) (fun c1 => ?_)
  · replace h := fx_ite_t c1 h
    refine lv_iload_n hx hb dX4_wrongBy_9 rfl (lv_at hl 0 rfl) ?_
    refine lv_iload_n hx hb dX4_wrongBy_10 rfl (lv_at hl 1 rfl) ?_
    refine lv_icmp_le (tgt := 19) hx hb dX4_wrongBy_11 (by decide) (fun c11 => ?_) (fun c11 => ?_)
    · replace h := fx_ite_t c11 h
      refine lv_iconst (v := 0) hx hb dX4_wrongBy_19 (by decide) ?_
      obtain rfl := rtv1 h
      exact rI hQ hx hb hr hlocks hAe hP hS rfl rfl dX4_wrongBy_20
    · replace h := fx_ite_f c11 h
      refine lv_bipush (v := (-6)) hx hb dX4_wrongBy_14 (by decide) ?_
      refine lv_goto (tgt := 20) hx hb dX4_wrongBy_16 (by decide) ?_
      obtain rfl := rtv1 h
      exact rI hQ hx hb hr hlocks hAe hP hS rfl rfl dX4_wrongBy_20
  · replace h := fx_ite_f c1 h
    refine lv_bipush (v := (-4)) hx hb dX4_wrongBy_4 (by decide) ?_
    refine lv_goto (tgt := 20) hx hb dX4_wrongBy_6 (by decide) ?_
    obtain rfl := rtv1 h
    exact rI hQ hx hb hr hlocks hAe hP hS rfl rfl dX4_wrongBy_20
