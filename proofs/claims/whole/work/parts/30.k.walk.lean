/-! X4_two -/
set_option maxHeartbeats 4000000 in
set_option maxRecDepth 100000 in
theorem c_X4_two (l : Launch) (D : va_G) (cI : ClassId) (a : Nat → Nat) (ss : (Nat → Int32)) (mm : (Nat → Int32)) (im : (Nat → Int32)) (wa : (Nat → Int32)) (hi : Int32) (le : (Nat → Int32)) (ro : (Nat → Int32)) (re : (Nat → Int32)) (lm : Int32) (rm : Int32) (pl : Int32) (nu : (Nat → Int32)) (gi : (Nat → Int32)) (bg : (Nat → Int32)) (bm : Int32) (sd : Int32) (p1 : Int32) (p2 : Int32) (p3 : Int32) (res : Int32) (u_mm : (Nat → Int32)) (u_re : (Nat → Int32)) (h : M_X4_two ss mm re p1 p2 p3 = some (res, u_mm, u_re)) : mI l yX4_two wsX4_two { frames := 8, cells := 0, slots := 0, locals := 182 } D cI [.ref (a 0), .int p1, .int p2, .int p3] (cM a cI ss mm im wa hi le ro re lm rm pl nu gi bg bm sd) (cM a cI ss u_mm im wa hi le ro u_re lm rm pl nu gi bg bm sd) res := by
  intro sz
  refine mStart (cc := cX4_two) (maxL := 8) (ret := (some .int)) (own := RX4) (by decide) rfl rfl (Nat.le_of_ble_eq_true rfl) (lv := [(0, .ref (a 0)), (1, .int p1), (2, .int p2), (3, .int p3)]) rfl ?_
  intro p e s m args below meth c A ls Q H locs CF hr hlocks hK hP hD hS hA hAe hl hQ
  obtain ⟨hx, hb, hml, hown, hts⟩ := id CF
  have L48 : ∀ (n : Nat) (x1 : Int32) (x2 : Int32) (x3 : Int32) (re : (Nat → Int32)) (x5 : Int32) (mm : (Nat → Int32)), fuel (fun _ _ => none) (B_X4_two_48 x1 x2 x3 ss re) n x5 mm = some (res, u_mm, u_re) → 
      ∀ (H : Heap) (locs : List Loc) (ls : Array Slot), va_P D vwCl (cM a cI ss mm im wa hi le ro re lm rm pl nu gi bg bm sd) H → va_D A (cM a cI ss mm im wa hi le ro re lm rm pl nu gi bg bm sd) → va_S A s.heap H locs → lv_has ls 8 [(0, .ref (a 0)), (1, .int x1), (2, .int x2), (3, .int x3), (5, .int x5)] → W p l e { frames := 8, cells := 0, slots := 0, locals := 182 } s m args below meth c H locs 0 0 Q (F0 m 48 ls []) := by
    intro n
    induction n with
    | zero =>
      intro x1 x2 x3 re x5 mm h
      exact nomatch (show (none : Option (Int32 × (Nat → Int32) × (Nat → Int32))) = some (res, u_mm, u_re) from h)
    | succ n ih =>
      intro x1 x2 x3 re x5 mm h  H locs ls hP hD hS hl
      replace h : B_X4_two_48 x1 x2 x3 ss re (fuel (fun _ _ => none) (B_X4_two_48 x1 x2 x3 ss re) n) x5 mm = some (res, u_mm, u_re) := h
      unfold B_X4_two_48 at h
      refine lv_iload hx hb dX4_two_48 (lv_at hl 4 rfl) ?_
      refine lv_iconst (v := 4) hx hb dX4_two_50 (by decide) ?_
      refine lv_icmp_ge (tgt := 139) hx hb dX4_two_51 (by decide) (fun c51 => ?_) (fun c51 => ?_)
      · replace h := fx_ite_t c51 h
        refine lv_bipush (v := (-9)) hx hb dX4_two_139 (by decide) ?_
        obtain ⟨rfl, rfl, rfl⟩ := rtv3 h
        exact rI hQ hx hb hr hlocks hAe hP hS rfl rfl dX4_two_141
      · replace h := fx_ite_f c51 h
        refine lv_iload hx hb dX4_two_54 (lv_at hl 4 rfl) ?_
        refine lv_iconst (v := 2) hx hb dX4_two_56 (by decide) ?_
        refine lv_idiv hx hb dX4_two_57 (by decide) ?_
        refine lv_istore (lv' := [(6, .int (x5 / (2 : Int32))), (0, .ref (a 0)), (1, .int x1), (2, .int x2), (3, .int x3), (5, .int x5)]) hx hb dX4_two_58 hl (by decide) rfl (fun ls hl => ?_)
        refine lv_iload hx hb dX4_two_60 (lv_at hl 5 rfl) ?_
        refine lv_iconst (v := 2) hx hb dX4_two_62 (by decide) ?_
        refine lv_irem hx hb dX4_two_63 (by decide) ?_
        refine lv_istore (lv' := [(7, .int (x5 - x5 / (2 : Int32) * (2 : Int32))), (6, .int (x5 / (2 : Int32))), (0, .ref (a 0)), (1, .int x1), (2, .int x2), (3, .int x3), (5, .int x5)]) hx hb dX4_two_64 hl (by decide) rfl (fun ls hl => ?_)
        refine lv_aload_n hx hb dX4_two_66 rfl (lv_at hl 2 rfl) ?_
        refine lv_iload_n hx hb dX4_two_67 rfl (lv_at hl 3 rfl) ?_
        refine lv_iload_n hx hb dX4_two_68 rfl (lv_at hl 3 rfl) ?_
        refine lv_iconst (v := 1) hx hb dX4_two_69 (by decide) ?_
        refine lv_iload hx hb dX4_two_70 (lv_at hl 1 rfl) ?_
        refine lv_isub hx hb dX4_two_72 ?_
        refine lv_iload_n hx hb dX4_two_73 rfl (lv_at hl 4 rfl) ?_
        refine lv_iload hx hb dX4_two_74 (lv_at hl 0 rfl) ?_
        refine lv_iload_n hx hb dX4_two_76 rfl (lv_at hl 5 rfl) ?_
        obtain ⟨r77, u77_mm, q77, h⟩ := bnd2_inv h
        refine kVI (n := 6) (As := [.int x1, .int x1, .int ((1 : Int32) - (x5 / (2 : Int32))), .int x2, .int (x5 - x5 / (2 : Int32) * (2 : Int32)), .int x3]) (rest := []) CF hl hK hP hD hS hA (c_X4_ownBy l D cI a ss mm im wa hi le ro re lm rm pl nu gi bg bm sd x1 x1 ((1 : Int32) - (x5 / (2 : Int32))) x2 (x5 - x5 / (2 : Int32) * (2 : Int32)) x3 r77 u77_mm q77) gX4_two_X4_ownBy rfl dX4_two_77 (by decide +kernel) ⟨⟨rfl, rfl⟩, ⟨Nat.le_of_ble_eq_true rfl, Nat.le_of_ble_eq_true rfl⟩, Nat.zero_le _, Nat.zero_le _⟩ (JN.whole (w1 := (cM a cI ss u77_mm im wa hi le ro re lm rm pl nu gi bg bm sd)) rfl) 0 rfl ⟨rfl, rfl⟩ rfl rfl (Nat.le_of_ble_eq_true rfl) (fun H locs hP hD hS => ?_)
        replace hP : va_P D vwCl (cM a cI ss u77_mm im wa hi le ro re lm rm pl nu gi bg bm sd) H := hP
        replace hD : va_D A (cM a cI ss u77_mm im wa hi le ro re lm rm pl nu gi bg bm sd) := hD
        refine lv_aload_n hx hb dX4_two_80 rfl (lv_at hl 2 rfl) ?_
        refine lv_iload_n hx hb dX4_two_81 rfl (lv_at hl 3 rfl) ?_
        refine lv_iload_n hx hb dX4_two_82 rfl (lv_at hl 3 rfl) ?_
        refine lv_iload hx hb dX4_two_83 (lv_at hl 1 rfl) ?_
        refine lv_iload_n hx hb dX4_two_85 rfl (lv_at hl 4 rfl) ?_
        refine lv_iload hx hb dX4_two_86 (lv_at hl 0 rfl) ?_
        refine lv_iload_n hx hb dX4_two_88 rfl (lv_at hl 5 rfl) ?_
        obtain ⟨r89, u89_mm, q89, h⟩ := bnd2_inv h
        refine kVI (n := 6) (As := [.int x1, .int x1, .int (x5 / (2 : Int32)), .int x2, .int (x5 - x5 / (2 : Int32) * (2 : Int32)), .int x3]) (rest := [.int r77]) CF hl hK hP hD hS hA (c_X4_ownBy l D cI a ss u77_mm im wa hi le ro re lm rm pl nu gi bg bm sd x1 x1 (x5 / (2 : Int32)) x2 (x5 - x5 / (2 : Int32) * (2 : Int32)) x3 r89 u89_mm q89) gX4_two_X4_ownBy rfl dX4_two_89 (by decide +kernel) ⟨⟨rfl, rfl⟩, ⟨Nat.le_of_ble_eq_true rfl, Nat.le_of_ble_eq_true rfl⟩, Nat.zero_le _, Nat.zero_le _⟩ (JN.whole (w1 := (cM a cI ss u89_mm im wa hi le ro re lm rm pl nu gi bg bm sd)) rfl) 0 rfl ⟨rfl, rfl⟩ rfl rfl (Nat.le_of_ble_eq_true rfl) (fun H locs hP hD hS => ?_)
        replace hP : va_P D vwCl (cM a cI ss u89_mm im wa hi le ro re lm rm pl nu gi bg bm sd) H := hP
        replace hD : va_D A (cM a cI ss u89_mm im wa hi le ro re lm rm pl nu gi bg bm sd) := hD
        refine lv_icmp_gt (tgt := 133) hx hb dX4_two_92 (by decide) (fun c92 => ?_) (fun c92 => ?_)
        · replace h := fx_ite_t c92 h
          refine lv_iinc (v := (x5 + 1)) (lv' := [(5, .int (x5 + 1)), (7, .int (x5 - x5 / (2 : Int32) * (2 : Int32))), (6, .int (x5 / (2 : Int32))), (0, .ref (a 0)), (1, .int x1), (2, .int x2), (3, .int x3)]) hx hb dX4_two_133 hl (k := 6) rfl (by first | rfl | decide) (by decide) rfl (fun ls hl => ?_)
          refine lv_goto (tgt := 48) hx hb dX4_two_136 (by decide) ?_
          exact ih _ _ _ _ _ _ h  _ _ _ hP hD hS (lv_sub hl [3, 4, 5, 6, 0] rfl)
        · replace h := fx_ite_f c92 h
          refine lv_aload_n hx hb dX4_two_95 rfl (lv_at hl 2 rfl) ?_
          refine lv_iload_n hx hb dX4_two_96 rfl (lv_at hl 4 rfl) ?_
          refine lv_iload_n hx hb dX4_two_97 rfl (lv_at hl 3 rfl) ?_
          refine lv_iload hx hb dX4_two_98 (lv_at hl 1 rfl) ?_
          refine lv_iload_n hx hb dX4_two_100 rfl (lv_at hl 4 rfl) ?_
          refine lv_iconst (v := 1) hx hb dX4_two_101 (by decide) ?_
          refine lv_iload hx hb dX4_two_102 (lv_at hl 0 rfl) ?_
          refine lv_isub hx hb dX4_two_104 ?_
          refine lv_iload_n hx hb dX4_two_105 rfl (lv_at hl 5 rfl) ?_
          obtain ⟨r106, u106_mm, q106, h⟩ := bnd2_inv h
          refine kVI (n := 6) (As := [.int x2, .int x1, .int (x5 / (2 : Int32)), .int x2, .int ((1 : Int32) - (x5 - x5 / (2 : Int32) * (2 : Int32))), .int x3]) (rest := []) CF hl hK hP hD hS hA (c_X4_ownBy l D cI a ss u89_mm im wa hi le ro re lm rm pl nu gi bg bm sd x2 x1 (x5 / (2 : Int32)) x2 ((1 : Int32) - (x5 - x5 / (2 : Int32) * (2 : Int32))) x3 r106 u106_mm q106) gX4_two_X4_ownBy rfl dX4_two_106 (by decide +kernel) ⟨⟨rfl, rfl⟩, ⟨Nat.le_of_ble_eq_true rfl, Nat.le_of_ble_eq_true rfl⟩, Nat.zero_le _, Nat.zero_le _⟩ (JN.whole (w1 := (cM a cI ss u106_mm im wa hi le ro re lm rm pl nu gi bg bm sd)) rfl) 0 rfl ⟨rfl, rfl⟩ rfl rfl (Nat.le_of_ble_eq_true rfl) (fun H locs hP hD hS => ?_)
          replace hP : va_P D vwCl (cM a cI ss u106_mm im wa hi le ro re lm rm pl nu gi bg bm sd) H := hP
          replace hD : va_D A (cM a cI ss u106_mm im wa hi le ro re lm rm pl nu gi bg bm sd) := hD
          refine lv_aload_n hx hb dX4_two_109 rfl (lv_at hl 2 rfl) ?_
          refine lv_iload_n hx hb dX4_two_110 rfl (lv_at hl 4 rfl) ?_
          refine lv_iload_n hx hb dX4_two_111 rfl (lv_at hl 3 rfl) ?_
          refine lv_iload hx hb dX4_two_112 (lv_at hl 1 rfl) ?_
          refine lv_iload_n hx hb dX4_two_114 rfl (lv_at hl 4 rfl) ?_
          refine lv_iload hx hb dX4_two_115 (lv_at hl 0 rfl) ?_
          refine lv_iload_n hx hb dX4_two_117 rfl (lv_at hl 5 rfl) ?_
          obtain ⟨r118, u118_mm, q118, h⟩ := bnd2_inv h
          refine kVI (n := 6) (As := [.int x2, .int x1, .int (x5 / (2 : Int32)), .int x2, .int (x5 - x5 / (2 : Int32) * (2 : Int32)), .int x3]) (rest := [.int r106]) CF hl hK hP hD hS hA (c_X4_ownBy l D cI a ss u106_mm im wa hi le ro re lm rm pl nu gi bg bm sd x2 x1 (x5 / (2 : Int32)) x2 (x5 - x5 / (2 : Int32) * (2 : Int32)) x3 r118 u118_mm q118) gX4_two_X4_ownBy rfl dX4_two_118 (by decide +kernel) ⟨⟨rfl, rfl⟩, ⟨Nat.le_of_ble_eq_true rfl, Nat.le_of_ble_eq_true rfl⟩, Nat.zero_le _, Nat.zero_le _⟩ (JN.whole (w1 := (cM a cI ss u118_mm im wa hi le ro re lm rm pl nu gi bg bm sd)) rfl) 0 rfl ⟨rfl, rfl⟩ rfl rfl (Nat.le_of_ble_eq_true rfl) (fun H locs hP hD hS => ?_)
          replace hP : va_P D vwCl (cM a cI ss u118_mm im wa hi le ro re lm rm pl nu gi bg bm sd) H := hP
          replace hD : va_D A (cM a cI ss u118_mm im wa hi le ro re lm rm pl nu gi bg bm sd) := hD
          refine lv_icmp_gt (tgt := 133) hx hb dX4_two_121 (by decide) (fun c121 => ?_) (fun c121 => ?_)
          · replace h := fx_ite_t c121 h
            refine lv_iinc (v := (x5 + 1)) (lv' := [(5, .int (x5 + 1)), (7, .int (x5 - x5 / (2 : Int32) * (2 : Int32))), (6, .int (x5 / (2 : Int32))), (0, .ref (a 0)), (1, .int x1), (2, .int x2), (3, .int x3)]) hx hb dX4_two_133 hl (k := 6) rfl (by first | rfl | decide) (by decide) rfl (fun ls hl => ?_)
            refine lv_goto (tgt := 48) hx hb dX4_two_136 (by decide) ?_
            exact ih _ _ _ _ _ _ h  _ _ _ hP hD hS (lv_sub hl [3, 4, 5, 6, 0] rfl)
          · replace h := fx_ite_f c121 h
            refine lv_bipush (v := 10) hx hb dX4_two_124 (by decide) ?_
            refine lv_iload hx hb dX4_two_126 (lv_at hl 1 rfl) ?_
            refine lv_imul hx hb dX4_two_128 ?_
            refine lv_iload hx hb dX4_two_129 (lv_at hl 0 rfl) ?_
            refine lv_iadd hx hb dX4_two_131 ?_
            obtain ⟨rfl, rfl, rfl⟩ := rtv3 h
            exact rI hQ hx hb hr hlocks hAe hP hS rfl rfl dX4_two_132
  unfold M_X4_two at h
  refine lv_aload_n hx hb dX4_two_0 rfl (lv_at hl 0 rfl) ?_
  refine lv_iload_n hx hb dX4_two_1 rfl (lv_at hl 1 rfl) ?_
  obtain ⟨r2, q2, h⟩ := bnd1_inv h
  refine kVI (n := 1) (As := [.int p1]) (rest := []) CF hl hK hP hD hS hA (c_X4_isPerson l D cI a ss mm im wa hi le ro re lm rm pl nu gi bg bm sd p1 r2 q2) gX4_two_X4_isPerson rfl dX4_two_2 (by decide +kernel) ⟨⟨rfl, rfl⟩, ⟨Nat.le_of_ble_eq_true rfl, Nat.le_of_ble_eq_true rfl⟩, Nat.zero_le _, Nat.zero_le _⟩ (JN.whole rfl) 0 rfl ⟨rfl, rfl⟩ rfl rfl (Nat.le_of_ble_eq_true rfl) (fun H locs hP hD hS => ?_)
  replace hP : va_P D vwCl (cM a cI ss mm im wa hi le ro re lm rm pl nu gi bg bm sd) H := hP
  replace hD : va_D A (cM a cI ss mm im wa hi le ro re lm rm pl nu gi bg bm sd) := hD
  refine lv_if_eq (tgt := 21) hx hb dX4_two_5 (by decide) (fun c5 => ?_) (fun c5 => ?_)
  · replace h := fx_ite_t c5 h
    refine lv_iconst (v := (-1)) hx hb dX4_two_21 (by decide) ?_
    refine lv_goto (tgt := 31) hx hb dX4_two_22 (by decide) ?_
    refine lv_istore (lv' := [(4, .int (-1 : Int32)), (0, .ref (a 0)), (1, .int p1), (2, .int p2), (3, .int p3)]) hx hb dX4_two_31 hl (by decide) rfl (fun ls hl => ?_)
    refine lv_iload hx hb dX4_two_33 (lv_at hl 0 rfl) ?_
    refine lv_if_eq (tgt := 45) hx hb dX4_two_35 (by decide) (fun c9 => absurd c9 (by decide)) (fun _ => ?_)
    refine lv_aload_n hx hb dX4_two_38 rfl (lv_at hl 1 rfl) ?_
    refine lv_iload hx hb dX4_two_39 (lv_at hl 0 rfl) ?_
    obtain ⟨r41, u41_re, q41, h⟩ := bnd2_inv h
    refine kVI (n := 1) (As := [.int (-1 : Int32)]) (rest := []) CF hl hK hP hD hS hA (c_X4_no l D cI a ss mm im wa hi le ro re lm rm pl nu gi bg bm sd (-1 : Int32) r41 u41_re q41) gX4_two_X4_no rfl dX4_two_41 (by decide +kernel) ⟨⟨rfl, rfl⟩, ⟨Nat.le_of_ble_eq_true rfl, Nat.le_of_ble_eq_true rfl⟩, Nat.zero_le _, Nat.zero_le _⟩ (JN.whole (w1 := (cM a cI ss mm im wa hi le ro u41_re lm rm pl nu gi bg bm sd)) rfl) 0 rfl ⟨rfl, rfl⟩ rfl rfl (Nat.le_of_ble_eq_true rfl) (fun H locs hP hD hS => ?_)
    replace hP : va_P D vwCl (cM a cI ss mm im wa hi le ro u41_re lm rm pl nu gi bg bm sd) H := hP
    replace hD : va_D A (cM a cI ss mm im wa hi le ro u41_re lm rm pl nu gi bg bm sd) := hD
    obtain ⟨rfl, rfl, rfl⟩ := rtv3 h
    exact rI hQ hx hb hr hlocks hAe hP hS rfl rfl dX4_two_44
  · replace h := fx_ite_f c5 h
    refine lv_aload_n hx hb dX4_two_8 rfl (lv_at hl 0 rfl) ?_
    refine lv_iload_n hx hb dX4_two_9 rfl (lv_at hl 2 rfl) ?_
    obtain ⟨r10, q10, h⟩ := bnd1_inv h
    refine kVI (n := 1) (As := [.int p2]) (rest := []) CF hl hK hP hD hS hA (c_X4_isPerson l D cI a ss mm im wa hi le ro re lm rm pl nu gi bg bm sd p2 r10 q10) gX4_two_X4_isPerson rfl dX4_two_10 (by decide +kernel) ⟨⟨rfl, rfl⟩, ⟨Nat.le_of_ble_eq_true rfl, Nat.le_of_ble_eq_true rfl⟩, Nat.zero_le _, Nat.zero_le _⟩ (JN.whole rfl) 0 rfl ⟨rfl, rfl⟩ rfl rfl (Nat.le_of_ble_eq_true rfl) (fun H locs hP hD hS => ?_)
    replace hP : va_P D vwCl (cM a cI ss mm im wa hi le ro re lm rm pl nu gi bg bm sd) H := hP
    replace hD : va_D A (cM a cI ss mm im wa hi le ro re lm rm pl nu gi bg bm sd) := hD
    refine lv_if_eq (tgt := 21) hx hb dX4_two_13 (by decide) (fun c13 => ?_) (fun c13 => ?_)
    · replace h := fx_ite_t c13 h
      refine lv_iconst (v := (-1)) hx hb dX4_two_21 (by decide) ?_
      refine lv_goto (tgt := 31) hx hb dX4_two_22 (by decide) ?_
      refine lv_istore (lv' := [(4, .int (-1 : Int32)), (0, .ref (a 0)), (1, .int p1), (2, .int p2), (3, .int p3)]) hx hb dX4_two_31 hl (by decide) rfl (fun ls hl => ?_)
      refine lv_iload hx hb dX4_two_33 (lv_at hl 0 rfl) ?_
      refine lv_if_eq (tgt := 45) hx hb dX4_two_35 (by decide) (fun c9 => absurd c9 (by decide)) (fun _ => ?_)
      refine lv_aload_n hx hb dX4_two_38 rfl (lv_at hl 1 rfl) ?_
      refine lv_iload hx hb dX4_two_39 (lv_at hl 0 rfl) ?_
      obtain ⟨r41, u41_re, q41, h⟩ := bnd2_inv h
      refine kVI (n := 1) (As := [.int (-1 : Int32)]) (rest := []) CF hl hK hP hD hS hA (c_X4_no l D cI a ss mm im wa hi le ro re lm rm pl nu gi bg bm sd (-1 : Int32) r41 u41_re q41) gX4_two_X4_no rfl dX4_two_41 (by decide +kernel) ⟨⟨rfl, rfl⟩, ⟨Nat.le_of_ble_eq_true rfl, Nat.le_of_ble_eq_true rfl⟩, Nat.zero_le _, Nat.zero_le _⟩ (JN.whole (w1 := (cM a cI ss mm im wa hi le ro u41_re lm rm pl nu gi bg bm sd)) rfl) 0 rfl ⟨rfl, rfl⟩ rfl rfl (Nat.le_of_ble_eq_true rfl) (fun H locs hP hD hS => ?_)
      replace hP : va_P D vwCl (cM a cI ss mm im wa hi le ro u41_re lm rm pl nu gi bg bm sd) H := hP
      replace hD : va_D A (cM a cI ss mm im wa hi le ro u41_re lm rm pl nu gi bg bm sd) := hD
      obtain ⟨rfl, rfl, rfl⟩ := rtv3 h
      exact rI hQ hx hb hr hlocks hAe hP hS rfl rfl dX4_two_44
    · replace h := fx_ite_f c13 h
      refine lv_iload_n hx hb dX4_two_16 rfl (lv_at hl 1 rfl) ?_
      refine lv_iload_n hx hb dX4_two_17 rfl (lv_at hl 2 rfl) ?_
      refine lv_icmp_ne (tgt := 25) hx hb dX4_two_18 (by decide) (fun c18 => ?_) (fun c18 => ?_)
      · replace h := fx_ite_f c18 h
        refine lv_iload_n hx hb dX4_two_25 rfl (lv_at hl 3 rfl) ?_
        refine lv_bipush (v := 99) hx hb dX4_two_26 (by decide) ?_
        obtain ⟨r28, q28, h⟩ := bnd1_inv h
        refine kSI (n := 2) (As := [.int p3, .int (99 : Int32)]) (rest := []) CF hl hK hP hD hS hA (c_X4_wrongBy l D cI   p3 (99 : Int32) r28 q28) gX4_two_X4_wrongBy rfl dX4_two_28 (by decide +kernel) ⟨⟨rfl, rfl⟩, ⟨Nat.le_of_ble_eq_true rfl, Nat.le_of_ble_eq_true rfl⟩, Nat.zero_le _, Nat.zero_le _⟩ (JN.ro [] rfl rfl) rfl rfl (Nat.le_of_ble_eq_true rfl) (fun H locs hP hD hS => ?_)
        refine lv_istore (lv' := [(4, .int r28), (0, .ref (a 0)), (1, .int p1), (2, .int p2), (3, .int p3)]) hx hb dX4_two_31 hl (by decide) rfl (fun ls hl => ?_)
        refine lv_iload hx hb dX4_two_33 (lv_at hl 0 rfl) ?_
        refine lv_if_eq (tgt := 45) hx hb dX4_two_35 (by decide) (fun c35 => ?_) (fun c35 => ?_)
        · replace h := fx_ite_t c35 h
          refine lv_iconst (v := 0) hx hb dX4_two_45 (by decide) ?_
          refine lv_istore (lv' := [(5, .int (0 : Int32)), (4, .int r28), (0, .ref (a 0)), (1, .int p1), (2, .int p2), (3, .int p3)]) hx hb dX4_two_46 hl (by decide) rfl (fun ls hl => ?_)
          exact L48 FU _ _ _ _ _ _ h  _ _ _ hP hD hS (lv_sub hl [2, 3, 4, 5, 0] rfl)
        · replace h := fx_ite_f c35 h
          refine lv_aload_n hx hb dX4_two_38 rfl (lv_at hl 1 rfl) ?_
          refine lv_iload hx hb dX4_two_39 (lv_at hl 0 rfl) ?_
          obtain ⟨r41, u41_re, q41, h⟩ := bnd2_inv h
          refine kVI (n := 1) (As := [.int r28]) (rest := []) CF hl hK hP hD hS hA (c_X4_no l D cI a ss mm im wa hi le ro re lm rm pl nu gi bg bm sd r28 r41 u41_re q41) gX4_two_X4_no rfl dX4_two_41 (by decide +kernel) ⟨⟨rfl, rfl⟩, ⟨Nat.le_of_ble_eq_true rfl, Nat.le_of_ble_eq_true rfl⟩, Nat.zero_le _, Nat.zero_le _⟩ (JN.whole (w1 := (cM a cI ss mm im wa hi le ro u41_re lm rm pl nu gi bg bm sd)) rfl) 0 rfl ⟨rfl, rfl⟩ rfl rfl (Nat.le_of_ble_eq_true rfl) (fun H locs hP hD hS => ?_)
          replace hP : va_P D vwCl (cM a cI ss mm im wa hi le ro u41_re lm rm pl nu gi bg bm sd) H := hP
          replace hD : va_D A (cM a cI ss mm im wa hi le ro u41_re lm rm pl nu gi bg bm sd) := hD
          obtain ⟨rfl, rfl, rfl⟩ := rtv3 h
          exact rI hQ hx hb hr hlocks hAe hP hS rfl rfl dX4_two_44
      · replace h := fx_ite_t c18 h
        refine lv_iconst (v := (-1)) hx hb dX4_two_21 (by decide) ?_
        refine lv_goto (tgt := 31) hx hb dX4_two_22 (by decide) ?_
        refine lv_istore (lv' := [(4, .int (-1 : Int32)), (0, .ref (a 0)), (1, .int p1), (2, .int p2), (3, .int p3)]) hx hb dX4_two_31 hl (by decide) rfl (fun ls hl => ?_)
        refine lv_iload hx hb dX4_two_33 (lv_at hl 0 rfl) ?_
        refine lv_if_eq (tgt := 45) hx hb dX4_two_35 (by decide) (fun c9 => absurd c9 (by decide)) (fun _ => ?_)
        refine lv_aload_n hx hb dX4_two_38 rfl (lv_at hl 1 rfl) ?_
        refine lv_iload hx hb dX4_two_39 (lv_at hl 0 rfl) ?_
        obtain ⟨r41, u41_re, q41, h⟩ := bnd2_inv h
        refine kVI (n := 1) (As := [.int (-1 : Int32)]) (rest := []) CF hl hK hP hD hS hA (c_X4_no l D cI a ss mm im wa hi le ro re lm rm pl nu gi bg bm sd (-1 : Int32) r41 u41_re q41) gX4_two_X4_no rfl dX4_two_41 (by decide +kernel) ⟨⟨rfl, rfl⟩, ⟨Nat.le_of_ble_eq_true rfl, Nat.le_of_ble_eq_true rfl⟩, Nat.zero_le _, Nat.zero_le _⟩ (JN.whole (w1 := (cM a cI ss mm im wa hi le ro u41_re lm rm pl nu gi bg bm sd)) rfl) 0 rfl ⟨rfl, rfl⟩ rfl rfl (Nat.le_of_ble_eq_true rfl) (fun H locs hP hD hS => ?_)
        replace hP : va_P D vwCl (cM a cI ss mm im wa hi le ro u41_re lm rm pl nu gi bg bm sd) H := hP
        replace hD : va_D A (cM a cI ss mm im wa hi le ro u41_re lm rm pl nu gi bg bm sd) := hD
        obtain ⟨rfl, rfl, rfl⟩ := rtv3 h
        exact rI hQ hx hb hr hlocks hAe hP hS rfl rfl dX4_two_44
/-! X4_gcd -/
set_option maxHeartbeats 4000000 in
set_option maxRecDepth 100000 in
theorem c_X4_gcd (l : Launch) (D : va_G) (cI : ClassId)   (p0 : Int64) (p2 : Int64) (res : Int64) (h : M_X4_gcd p0 p2 = some res) : mL l yX4_gcd wsX4_gcd { frames := 0, cells := 0, slots := 0, locals := 0 } D cI [.long p0, .long p2] [] [] res := by
  intro sz
  refine mStart (cc := cX4_gcd) (maxL := 10) (ret := (some .long)) (own := RX4) (by decide) rfl rfl (Nat.le_of_ble_eq_true rfl) (lv := [(0, .long p0), (2, .long p2)]) rfl ?_
  intro p e s m args below meth c A ls Q H locs CF hr hlocks hK hP hD hS hA hAe hl hQ
  obtain ⟨hx, hb, hml, hown, hts⟩ := id CF
  have L6 : ∀ (n : Nat)  (x4 : Int64) (x6 : Int64), fuel (fun _ _ => none) (B_X4_gcd_6) n x4 x6 = some res → 
      ∀ (H : Heap) (locs : List Loc) (ls : Array Slot), va_P D vwCl [] H → va_D A [] → va_S A s.heap H locs → lv_has ls 10 [(4, .long x4), (6, .long x6)] → W p l e { frames := 0, cells := 0, slots := 0, locals := 0 } s m args below meth c H locs 0 0 Q (F0 m 6 ls []) := by
    intro n
    induction n with
    | zero =>
      intro x4 x6 h
      exact nomatch (show (none : Option (Int64)) = some res from h)
    | succ n ih =>
      intro x4 x6 h  H locs ls hP hD hS hl
      replace h : B_X4_gcd_6  (fuel (fun _ _ => none) (B_X4_gcd_6) n) x4 x6 = some res := h
      unfold B_X4_gcd_6 at h
      refine lv_lload hx hb dX4_gcd_6 (lv_at hl 1 rfl) ?_
      refine lv_lconst (v := 0) hx hb dX4_gcd_8 (by decide) ?_
      refine W.lcmp hx hb dX4_gcd_9 ?_
      refine lv_if_eq (tgt := 31) hx hb dX4_gcd_10 (by decide) (fun c10 => ?_) (fun c10 => ?_)
      · replace h := fx_ite_t c10 h
        refine lv_lload hx hb dX4_gcd_31 (lv_at hl 0 rfl) ?_
        obtain rfl := rtv1 h
        exact rL hQ hx hb hr hlocks hAe hP hS rfl dX4_gcd_33
      · replace h := fx_ite_f c10 h
        refine lv_lload hx hb dX4_gcd_13 (lv_at hl 0 rfl) ?_
        refine lv_lload hx hb dX4_gcd_15 (lv_at hl 1 rfl) ?_
        obtain ⟨e17, h⟩ := dchL_inv h
        refine lv_lrem hx hb dX4_gcd_17 e17 ?_
        refine lv_lstore (lv' := [(8, .long (x4 - x4 / x6 * x6)), (4, .long x4), (6, .long x6)]) hx hb dX4_gcd_18 hl (by decide) rfl (fun ls hl => ?_)
        refine lv_lload hx hb dX4_gcd_20 (lv_at hl 2 rfl) ?_
        refine lv_lstore (lv' := [(4, .long x6), (8, .long (x4 - x4 / x6 * x6)), (6, .long x6)]) hx hb dX4_gcd_22 hl (by decide) rfl (fun ls hl => ?_)
        refine lv_lload hx hb dX4_gcd_24 (lv_at hl 1 rfl) ?_
        refine lv_lstore (lv' := [(6, .long (x4 - x4 / x6 * x6)), (4, .long x6), (8, .long (x4 - x4 / x6 * x6))]) hx hb dX4_gcd_26 hl (by decide) rfl (fun ls hl => ?_)
        refine lv_goto (tgt := 6) hx hb dX4_gcd_28 (by decide) ?_
        exact ih _ _ h  _ _ _ hP hD hS (lv_sub hl [1, 0] rfl)
  unfold M_X4_gcd at h
  refine lv_lload_n hx hb dX4_gcd_0 rfl (lv_at hl 0 rfl) ?_
  refine lv_lstore (lv' := [(4, .long p0), (0, .long p0), (2, .long p2)]) hx hb dX4_gcd_1 hl (by decide) rfl (fun ls hl => ?_)
  refine lv_lload_n hx hb dX4_gcd_3 rfl (lv_at hl 2 rfl) ?_
  refine lv_lstore (lv' := [(6, .long p2), (4, .long p0), (0, .long p0), (2, .long p2)]) hx hb dX4_gcd_4 hl (by decide) rfl (fun ls hl => ?_)
  exact L6 FU _ _ h  _ _ _ hP hD hS (lv_sub hl [1, 0] rfl)
/-! X4_partOf -/
set_option maxHeartbeats 4000000 in
set_option maxRecDepth 100000 in
theorem c_X4_partOf (l : Launch) (D : va_G) (cI : ClassId)   (p0 : Int64) (p2 : Int64) (p4 : Int32) (res : Int64) (h : M_X4_partOf p0 p2 p4 = some res) : mL l yX4_partOf wsX4_partOf { frames := 1, cells := 0, slots := 0, locals := 29 } D cI [.long p0, .long p2, .int p4] [] [] res := by
  intro sz
  refine mStart (cc := cX4_partOf) (maxL := 5) (ret := (some .long)) (own := RX4) (by decide) rfl rfl (Nat.le_of_ble_eq_true rfl) (lv := [(0, .long p0), (2, .long p2), (4, .int p4)]) rfl ?_
  intro p e s m args below meth c A ls Q H locs CF hr hlocks hK hP hD hS hA hAe hl hQ
  obtain ⟨hx, hb, hml, hown, hts⟩ := id CF
  unfold M_X4_partOf at h
  refine lv_lload_n hx hb dX4_partOf_0 rfl (lv_at hl 0 rfl) ?_
  refine lv_lconst (v := 0) hx hb dX4_partOf_1 (by decide) ?_
  refine W.lcmp hx hb dX4_partOf_2 ?_
  refine lv_if_ne (tgt := 10) hx hb dX4_partOf_3 (by decide) (fun c3 => ?_) (fun c3 => ?_)
  · replace h := fx_ite_f c3 h
    refine lv_iload hx hb dX4_partOf_10 (lv_at hl 2 rfl) ?_
    refine lv_if_ne (tgt := 19) hx hb dX4_partOf_12 (by decide) (fun c12 => ?_) (fun c12 => ?_)
    · replace h := fx_ite_f c12 h
      refine lv_lload_n hx hb dX4_partOf_19 rfl (lv_at hl 1 rfl) ?_
      refine lv_lload_n hx hb dX4_partOf_20 rfl (lv_at hl 0 rfl) ?_
      refine lv_lload_n hx hb dX4_partOf_21 rfl (lv_at hl 1 rfl) ?_
      obtain ⟨r22, q22, h⟩ := bnd1_inv h
      refine kSL (n := 2) (As := [.long p0, .long p2]) (rest := [.long p2]) CF hl hK hP hD hS hA (c_X4_gcd l D cI   p0 p2 r22 q22) gX4_partOf_X4_gcd rfl dX4_partOf_22 (by decide +kernel) ⟨⟨rfl, rfl⟩, ⟨Nat.le_of_ble_eq_true rfl, Nat.le_of_ble_eq_true rfl⟩, Nat.zero_le _, Nat.zero_le _⟩ (JN.whole rfl) rfl rfl (Nat.le_of_ble_eq_true rfl) (fun H locs hP hD hS => ?_)
      replace hP : va_P D vwCl [] H := hP
      replace hD : va_D A [] := hD
      obtain ⟨e25, h⟩ := dchL_inv h
      refine lv_ldiv hx hb dX4_partOf_25 e25 ?_
      obtain rfl := rtv1 h
      exact rL hQ hx hb hr hlocks hAe hP hS rfl dX4_partOf_26
    · replace h := fx_ite_t c12 h
      refine lv_lload_n hx hb dX4_partOf_15 rfl (lv_at hl 0 rfl) ?_
      refine lv_goto (tgt := 20) hx hb dX4_partOf_16 (by decide) ?_
      refine lv_lload_n hx hb dX4_partOf_20 rfl (lv_at hl 0 rfl) ?_
      refine lv_lload_n hx hb dX4_partOf_21 rfl (lv_at hl 1 rfl) ?_
      obtain ⟨r22, q22, h⟩ := bnd1_inv h
      refine kSL (n := 2) (As := [.long p0, .long p2]) (rest := [.long p0]) CF hl hK hP hD hS hA (c_X4_gcd l D cI   p0 p2 r22 q22) gX4_partOf_X4_gcd rfl dX4_partOf_22 (by decide +kernel) ⟨⟨rfl, rfl⟩, ⟨Nat.le_of_ble_eq_true rfl, Nat.le_of_ble_eq_true rfl⟩, Nat.zero_le _, Nat.zero_le _⟩ (JN.whole rfl) rfl rfl (Nat.le_of_ble_eq_true rfl) (fun H locs hP hD hS => ?_)
      replace hP : va_P D vwCl [] H := hP
      replace hD : va_D A [] := hD
      obtain ⟨e25, h⟩ := dchL_inv h
      refine lv_ldiv hx hb dX4_partOf_25 e25 ?_
      obtain rfl := rtv1 h
      exact rL hQ hx hb hr hlocks hAe hP hS rfl dX4_partOf_26
  · replace h := fx_ite_t c3 h
    refine lv_iload hx hb dX4_partOf_6 (lv_at hl 2 rfl) ?_
    refine lv_i2l hx hb dX4_partOf_8 rfl ?_
    obtain rfl := rtv1 h
    exact rL hQ hx hb hr hlocks hAe hP hS rfl dX4_partOf_9
/-! X4_storm -/
set_option maxHeartbeats 4000000 in
set_option maxRecDepth 100000 in
theorem c_X4_storm (l : Launch) (D : va_G) (cI : ClassId) (a : Nat → Nat) (ss : (Nat → Int32)) (mm : (Nat → Int32)) (im : (Nat → Int32)) (wa : (Nat → Int32)) (hi : Int32) (le : (Nat → Int32)) (ro : (Nat → Int32)) (re : (Nat → Int32)) (lm : Int32) (rm : Int32) (pl : Int32) (nu : (Nat → Int32)) (gi : (Nat → Int32)) (bg : (Nat → Int32)) (bm : Int32) (sd : Int32) (p1 : Int32) (p2 : Int32) (p3 : Int32) (p4 : Int32) (res : Int64) (u_mm : (Nat → Int32)) (u_re : (Nat → Int32)) (h : M_X4_storm ss mm re p1 p2 p3 p4 = some (res, u_mm, u_re)) : mL l yX4_storm wsX4_storm { frames := 6, cells := 0, slots := 0, locals := 132 } D cI [.ref (a 0), .int p1, .int p2, .int p3, .int p4] (cM a cI ss mm im wa hi le ro re lm rm pl nu gi bg bm sd) (cM a cI ss u_mm im wa hi le ro u_re lm rm pl nu gi bg bm sd) res := by
  intro sz
  refine mStart (cc := cX4_storm) (maxL := 13) (ret := (some .long)) (own := RX4) (by decide) rfl rfl (Nat.le_of_ble_eq_true rfl) (lv := [(0, .ref (a 0)), (1, .int p1), (2, .int p2), (3, .int p3), (4, .int p4)]) rfl ?_
  intro p e s m args below meth c A ls Q H locs CF hr hlocks hK hP hD hS hA hAe hl hQ
  obtain ⟨hx, hb, hml, hown, hts⟩ := id CF
  have f9 := hts (.fieldLink RX4 9 "MendAnothersBreakingModel" "s" "[I") (List.mem_of_getElem? (i := 1) rfl)
  have f13 := hts (.fieldLink RX4 13 "MendAnothersBreakingModel" "m" "[I") (List.mem_of_getElem? (i := 2) rfl)
  have i4 : ∀ w ∈ wsX40, w ∈ wsX4_storm := fun w h => List.mem_cons_of_mem _ (List.mem_append_right _ h)
  have L122 : ∀ (n : Nat) (x1 : Int32) (x2 : Int32) (x3 : Int32) (x4 : Int32) (x5 : Int64) (x7 : Int64) (x9 : Int32) (re : (Nat → Int32)) (k179 : Int64 → (Nat → Int32) → Option (Int64 × (Nat → Int32) × (Nat → Int32))) (x10 : Int64) (x12 : Int32) (mm : (Nat → Int32)), fuel (fun _ _ _ => none) (B_X4_storm_122 x1 x2 x3 x4 x5 x7 x9 ss re k179) n x10 x12 mm = some (res, u_mm, u_re) → 
      (∀ (x10 : Int64) (mm : (Nat → Int32)), k179 x10 mm = some (res, u_mm, u_re) → ∀ (H : Heap) (locs : List Loc) (ls : Array Slot), va_P D vwCl (cM a cI ss mm im wa hi le ro re lm rm pl nu gi bg bm sd) H → va_D A (cM a cI ss mm im wa hi le ro re lm rm pl nu gi bg bm sd) → va_S A s.heap H locs → lv_has ls 13 [(0, .ref (a 0)), (1, .int x1), (2, .int x2), (3, .int x3), (4, .int x4), (5, .long x5), (7, .long x7), (9, .int x9), (10, .long x10)] → W p l e { frames := 6, cells := 0, slots := 0, locals := 132 } s m args below meth c H locs 0 0 Q (F0 m 179 ls [])) → 
      ∀ (H : Heap) (locs : List Loc) (ls : Array Slot), va_P D vwCl (cM a cI ss mm im wa hi le ro re lm rm pl nu gi bg bm sd) H → va_D A (cM a cI ss mm im wa hi le ro re lm rm pl nu gi bg bm sd) → va_S A s.heap H locs → lv_has ls 13 [(0, .ref (a 0)), (1, .int x1), (2, .int x2), (3, .int x3), (4, .int x4), (5, .long x5), (7, .long x7), (9, .int x9), (10, .long x10), (12, .int x12)] → W p l e { frames := 6, cells := 0, slots := 0, locals := 132 } s m args below meth c H locs 0 0 Q (F0 m 122 ls []) := by
    intro n
    induction n with
    | zero =>
      intro x1 x2 x3 x4 x5 x7 x9 re k179 x10 x12 mm h
      exact nomatch (show (none : Option (Int64 × (Nat → Int32) × (Nat → Int32))) = some (res, u_mm, u_re) from h)
    | succ n ih =>
      intro x1 x2 x3 x4 x5 x7 x9 re k179 x10 x12 mm h hk179 H locs ls hP hD hS hl
      replace h : B_X4_storm_122 x1 x2 x3 x4 x5 x7 x9 ss re k179 (fuel (fun _ _ _ => none) (B_X4_storm_122 x1 x2 x3 x4 x5 x7 x9 ss re k179) n) x10 x12 mm = some (res, u_mm, u_re) := h
      unfold B_X4_storm_122 at h
      refine lv_iload hx hb dX4_storm_122 (lv_at hl 9 rfl) ?_
      refine lv_iload_n hx hb dX4_storm_124 rfl (lv_at hl 2 rfl) ?_
      refine lv_icmp_ge (tgt := 179) hx hb dX4_storm_125 (by decide) (fun c125 => ?_) (fun c125 => ?_)
      · replace h := fx_ite_t c125 h
        exact hk179 _ _ h _ _ _ hP hD hS (lv_sub hl [0, 1, 2, 3, 4, 5, 6, 7, 8] rfl)
      · replace h := fx_ite_f c125 h
        refine lv_lload hx hb dX4_storm_128 (lv_at hl 8 rfl) ?_
        refine lv_iload hx hb dX4_storm_130 (lv_at hl 7 rfl) ?_
        refine lv_iload hx hb dX4_storm_132 (lv_at hl 9 rfl) ?_
        obtain ⟨r134, q134, h⟩ := bnd1_inv h
        refine kSI (n := 2) (As := [.int x9, .int x12]) (rest := [.long x10]) CF hl hK hP hD hS hA (c_X4_has l D cI   x9 x12 r134 q134) gX4_storm_X4_has rfl dX4_storm_134 (by decide +kernel) ⟨⟨rfl, rfl⟩, ⟨Nat.le_of_ble_eq_true rfl, Nat.le_of_ble_eq_true rfl⟩, Nat.zero_le _, Nat.zero_le _⟩ (JN.ro [] rfl rfl) rfl rfl (Nat.le_of_ble_eq_true rfl) (fun H locs hP hD hS => ?_)
        refine lv_if_eq (tgt := 144) hx hb dX4_storm_137 (by decide) (fun c137 => ?_) (fun c137 => ?_)
        · replace h := fx_ite_t c137 h
          refine lv_iload_n hx hb dX4_storm_144 rfl (lv_at hl 3 rfl) ?_
          refine lv_iconst (v := 1) hx hb dX4_storm_145 (by decide) ?_
          refine lv_isub hx hb dX4_storm_146 ?_
          refine lv_i2l hx hb dX4_storm_147 rfl ?_
          refine lv_lmul hx hb dX4_storm_148 ?_
          refine lv_lstore (lv' := [(10, .long (x10 * (Int32.toInt64 (x3 - (1 : Int32))))), (0, .ref (a 0)), (1, .int x1), (2, .int x2), (3, .int x3), (4, .int x4), (5, .long x5), (7, .long x7), (9, .int x9), (12, .int x12)]) hx hb dX4_storm_149 hl (by decide) rfl (fun ls hl => ?_)
          refine lv_aload_n hx hb dX4_storm_151 rfl (lv_at hl 1 rfl) ?_
          refine va_get (D := D) (ci := 4) (v := .ref (a 2)) (C := RX4) (T := TX4) (N := 16) hx hb hts i4 hown hK hP 0 rfl rfl 1 (by decide) f13 (fun _ h9 => h9) rfl dX4_storm_152 ?_
          refine lv_iload hx hb dX4_storm_155 (lv_at hl 8 rfl) ?_
          refine lv_iload hx hb dX4_storm_157 (lv_at hl 9 rfl) ?_
          obtain ⟨r159, q159, h⟩ := bnd1_inv h
          refine kSI (n := 2) (As := [.int x9, .int x12]) (rest := [.ref (a 2)]) CF hl hK hP hD hS hA (c_X4_has l D cI   x9 x12 r159 q159) gX4_storm_X4_has rfl dX4_storm_159 (by decide +kernel) ⟨⟨rfl, rfl⟩, ⟨Nat.le_of_ble_eq_true rfl, Nat.le_of_ble_eq_true rfl⟩, Nat.zero_le _, Nat.zero_le _⟩ (JN.ro [] rfl rfl) rfl rfl (Nat.le_of_ble_eq_true rfl) (fun H locs hP hD hS => ?_)
          refine lv_if_eq (tgt := 169) hx hb dX4_storm_162 (by decide) (fun c162 => ?_) (fun c162 => ?_)
          · replace h := fx_ite_t c162 h
            refine lv_iconst (v := 1) hx hb dX4_storm_169 (by decide) ?_
            obtain ⟨u170_mm, q170, h⟩ := bnd1_inv h
            refine kSV (n := 2) (As := [.ref (a 2), .int (1 : Int32)]) (rest := []) CF hl hK hP hD hS hA (c_X4_day l D cI (a 2) mm (1 : Int32) u170_mm q170) gX4_storm_X4_day rfl dX4_storm_170 (by decide +kernel) ⟨⟨rfl, rfl⟩, ⟨Nat.le_of_ble_eq_true rfl, Nat.le_of_ble_eq_true rfl⟩, Nat.zero_le _, Nat.zero_le _⟩ (JN.sub (wst' := (cM a cI ss u170_mm im wa hi le ro re lm rm pl nu gi bg bm sd)) [2] rfl rfl rfl rfl) rfl rfl (Nat.le_of_ble_eq_true rfl) (fun H locs hP hD hS => ?_)
            replace hP : va_P D vwCl (cM a cI ss u170_mm im wa hi le ro re lm rm pl nu gi bg bm sd) H := hP
            replace hD : va_D A (cM a cI ss u170_mm im wa hi le ro re lm rm pl nu gi bg bm sd) := hD
            refine lv_iinc (v := (x12 + 1)) (lv' := [(12, .int (x12 + 1)), (10, .long (x10 * (Int32.toInt64 (x3 - (1 : Int32))))), (0, .ref (a 0)), (1, .int x1), (2, .int x2), (3, .int x3), (4, .int x4), (5, .long x5), (7, .long x7), (9, .int x9)]) hx hb dX4_storm_173 hl (k := 9) rfl (by first | rfl | decide) (by decide) rfl (fun ls hl => ?_)
            refine lv_goto (tgt := 122) hx hb dX4_storm_176 (by decide) ?_
            exact ih _ _ _ _ _ _ _ _ _ _ _ _ h hk179 _ _ _ hP hD hS (lv_sub hl [2, 3, 4, 5, 6, 7, 8, 9, 1, 0] rfl)
          · replace h := fx_ite_f c162 h
            refine lv_iconst (v := 2) hx hb dX4_storm_165 (by decide) ?_
            refine lv_goto (tgt := 170) hx hb dX4_storm_166 (by decide) ?_
            obtain ⟨u170_mm, q170, h⟩ := bnd1_inv h
            refine kSV (n := 2) (As := [.ref (a 2), .int (2 : Int32)]) (rest := []) CF hl hK hP hD hS hA (c_X4_day l D cI (a 2) mm (2 : Int32) u170_mm q170) gX4_storm_X4_day rfl dX4_storm_170 (by decide +kernel) ⟨⟨rfl, rfl⟩, ⟨Nat.le_of_ble_eq_true rfl, Nat.le_of_ble_eq_true rfl⟩, Nat.zero_le _, Nat.zero_le _⟩ (JN.sub (wst' := (cM a cI ss u170_mm im wa hi le ro re lm rm pl nu gi bg bm sd)) [2] rfl rfl rfl rfl) rfl rfl (Nat.le_of_ble_eq_true rfl) (fun H locs hP hD hS => ?_)
            replace hP : va_P D vwCl (cM a cI ss u170_mm im wa hi le ro re lm rm pl nu gi bg bm sd) H := hP
            replace hD : va_D A (cM a cI ss u170_mm im wa hi le ro re lm rm pl nu gi bg bm sd) := hD
            refine lv_iinc (v := (x12 + 1)) (lv' := [(12, .int (x12 + 1)), (10, .long (x10 * (Int32.toInt64 (x3 - (1 : Int32))))), (0, .ref (a 0)), (1, .int x1), (2, .int x2), (3, .int x3), (4, .int x4), (5, .long x5), (7, .long x7), (9, .int x9)]) hx hb dX4_storm_173 hl (k := 9) rfl (by first | rfl | decide) (by decide) rfl (fun ls hl => ?_)
            refine lv_goto (tgt := 122) hx hb dX4_storm_176 (by decide) ?_
            exact ih _ _ _ _ _ _ _ _ _ _ _ _ h hk179 _ _ _ hP hD hS (lv_sub hl [2, 3, 4, 5, 6, 7, 8, 9, 1, 0] rfl)
        · replace h := fx_ite_f c137 h
          refine lv_lconst (v := 1) hx hb dX4_storm_140 (by decide) ?_
          refine lv_goto (tgt := 148) hx hb dX4_storm_141 (by decide) ?_
          refine lv_lmul hx hb dX4_storm_148 ?_
          refine lv_lstore (lv' := [(10, .long (x10 * (1 : Int64))), (0, .ref (a 0)), (1, .int x1), (2, .int x2), (3, .int x3), (4, .int x4), (5, .long x5), (7, .long x7), (9, .int x9), (12, .int x12)]) hx hb dX4_storm_149 hl (by decide) rfl (fun ls hl => ?_)
          refine lv_aload_n hx hb dX4_storm_151 rfl (lv_at hl 1 rfl) ?_
          refine va_get (D := D) (ci := 4) (v := .ref (a 2)) (C := RX4) (T := TX4) (N := 16) hx hb hts i4 hown hK hP 0 rfl rfl 1 (by decide) f13 (fun _ h9 => h9) rfl dX4_storm_152 ?_
          refine lv_iload hx hb dX4_storm_155 (lv_at hl 8 rfl) ?_
          refine lv_iload hx hb dX4_storm_157 (lv_at hl 9 rfl) ?_
          obtain ⟨r159, q159, h⟩ := bnd1_inv h
          refine kSI (n := 2) (As := [.int x9, .int x12]) (rest := [.ref (a 2)]) CF hl hK hP hD hS hA (c_X4_has l D cI   x9 x12 r159 q159) gX4_storm_X4_has rfl dX4_storm_159 (by decide +kernel) ⟨⟨rfl, rfl⟩, ⟨Nat.le_of_ble_eq_true rfl, Nat.le_of_ble_eq_true rfl⟩, Nat.zero_le _, Nat.zero_le _⟩ (JN.ro [] rfl rfl) rfl rfl (Nat.le_of_ble_eq_true rfl) (fun H locs hP hD hS => ?_)
          refine lv_if_eq (tgt := 169) hx hb dX4_storm_162 (by decide) (fun c162 => ?_) (fun c162 => ?_)
          · replace h := fx_ite_t c162 h
            refine lv_iconst (v := 1) hx hb dX4_storm_169 (by decide) ?_
            obtain ⟨u170_mm, q170, h⟩ := bnd1_inv h
            refine kSV (n := 2) (As := [.ref (a 2), .int (1 : Int32)]) (rest := []) CF hl hK hP hD hS hA (c_X4_day l D cI (a 2) mm (1 : Int32) u170_mm q170) gX4_storm_X4_day rfl dX4_storm_170 (by decide +kernel) ⟨⟨rfl, rfl⟩, ⟨Nat.le_of_ble_eq_true rfl, Nat.le_of_ble_eq_true rfl⟩, Nat.zero_le _, Nat.zero_le _⟩ (JN.sub (wst' := (cM a cI ss u170_mm im wa hi le ro re lm rm pl nu gi bg bm sd)) [2] rfl rfl rfl rfl) rfl rfl (Nat.le_of_ble_eq_true rfl) (fun H locs hP hD hS => ?_)
            replace hP : va_P D vwCl (cM a cI ss u170_mm im wa hi le ro re lm rm pl nu gi bg bm sd) H := hP
            replace hD : va_D A (cM a cI ss u170_mm im wa hi le ro re lm rm pl nu gi bg bm sd) := hD
            refine lv_iinc (v := (x12 + 1)) (lv' := [(12, .int (x12 + 1)), (10, .long (x10 * (1 : Int64))), (0, .ref (a 0)), (1, .int x1), (2, .int x2), (3, .int x3), (4, .int x4), (5, .long x5), (7, .long x7), (9, .int x9)]) hx hb dX4_storm_173 hl (k := 9) rfl (by first | rfl | decide) (by decide) rfl (fun ls hl => ?_)
            refine lv_goto (tgt := 122) hx hb dX4_storm_176 (by decide) ?_
            exact ih _ _ _ _ _ _ _ _ _ _ _ _ h hk179 _ _ _ hP hD hS (lv_sub hl [2, 3, 4, 5, 6, 7, 8, 9, 1, 0] rfl)
          · replace h := fx_ite_f c162 h
            refine lv_iconst (v := 2) hx hb dX4_storm_165 (by decide) ?_
            refine lv_goto (tgt := 170) hx hb dX4_storm_166 (by decide) ?_
            obtain ⟨u170_mm, q170, h⟩ := bnd1_inv h
            refine kSV (n := 2) (As := [.ref (a 2), .int (2 : Int32)]) (rest := []) CF hl hK hP hD hS hA (c_X4_day l D cI (a 2) mm (2 : Int32) u170_mm q170) gX4_storm_X4_day rfl dX4_storm_170 (by decide +kernel) ⟨⟨rfl, rfl⟩, ⟨Nat.le_of_ble_eq_true rfl, Nat.le_of_ble_eq_true rfl⟩, Nat.zero_le _, Nat.zero_le _⟩ (JN.sub (wst' := (cM a cI ss u170_mm im wa hi le ro re lm rm pl nu gi bg bm sd)) [2] rfl rfl rfl rfl) rfl rfl (Nat.le_of_ble_eq_true rfl) (fun H locs hP hD hS => ?_)
            replace hP : va_P D vwCl (cM a cI ss u170_mm im wa hi le ro re lm rm pl nu gi bg bm sd) H := hP
            replace hD : va_D A (cM a cI ss u170_mm im wa hi le ro re lm rm pl nu gi bg bm sd) := hD
            refine lv_iinc (v := (x12 + 1)) (lv' := [(12, .int (x12 + 1)), (10, .long (x10 * (1 : Int64))), (0, .ref (a 0)), (1, .int x1), (2, .int x2), (3, .int x3), (4, .int x4), (5, .long x5), (7, .long x7), (9, .int x9)]) hx hb dX4_storm_173 hl (k := 9) rfl (by first | rfl | decide) (by decide) rfl (fun ls hl => ?_)
            refine lv_goto (tgt := 122) hx hb dX4_storm_176 (by decide) ?_
            exact ih _ _ _ _ _ _ _ _ _ _ _ _ h hk179 _ _ _ hP hD hS (lv_sub hl [2, 3, 4, 5, 6, 7, 8, 9, 1, 0] rfl)
  have L97 : ∀ (n : Nat) (x1 : Int32) (x2 : Int32) (x3 : Int32) (x4 : Int32) (x7 : Int64) (re : (Nat → Int32)) (x5 : Int64) (x9 : Int32) (mm : (Nat → Int32)), fuel (fun _ _ _ => none) (B_X4_storm_97 x1 x2 x3 x4 x7 ss re) n x5 x9 mm = some (res, u_mm, u_re) → 
      ∀ (H : Heap) (locs : List Loc) (ls : Array Slot), va_P D vwCl (cM a cI ss mm im wa hi le ro re lm rm pl nu gi bg bm sd) H → va_D A (cM a cI ss mm im wa hi le ro re lm rm pl nu gi bg bm sd) → va_S A s.heap H locs → lv_has ls 13 [(0, .ref (a 0)), (1, .int x1), (2, .int x2), (3, .int x3), (4, .int x4), (5, .long x5), (7, .long x7), (9, .int x9)] → W p l e { frames := 6, cells := 0, slots := 0, locals := 132 } s m args below meth c H locs 0 0 Q (F0 m 97 ls []) := by
    intro n
    induction n with
    | zero =>
      intro x1 x2 x3 x4 x7 re x5 x9 mm h
      exact nomatch (show (none : Option (Int64 × (Nat → Int32) × (Nat → Int32))) = some (res, u_mm, u_re) from h)
    | succ n ih =>
      intro x1 x2 x3 x4 x7 re x5 x9 mm h  H locs ls hP hD hS hl
      replace h : B_X4_storm_97 x1 x2 x3 x4 x7 ss re (fuel (fun _ _ _ => none) (B_X4_storm_97 x1 x2 x3 x4 x7 ss re) n) x5 x9 mm = some (res, u_mm, u_re) := h
      unfold B_X4_storm_97 at h
      refine lv_iload hx hb dX4_storm_97 (lv_at hl 7 rfl) ?_
      refine lv_iconst (v := 1) hx hb dX4_storm_99 (by decide) ?_
      refine lv_iload_n hx hb dX4_storm_100 rfl (lv_at hl 2 rfl) ?_
      refine lv_ishl hx hb dX4_storm_101 ?_
      refine lv_icmp_ge (tgt := 207) hx hb dX4_storm_102 (by decide) (fun c102 => ?_) (fun c102 => ?_)
      · replace h := fx_ite_t c102 h
        refine lv_lload hx hb dX4_storm_207 (lv_at hl 5 rfl) ?_
        refine lv_lload hx hb dX4_storm_209 (lv_at hl 6 rfl) ?_
        refine lv_iload hx hb dX4_storm_211 (lv_at hl 4 rfl) ?_
        obtain ⟨r213, q213, h⟩ := bnd1_inv h
        refine kSL (n := 3) (As := [.long x5, .long x7, .int x4]) (rest := []) CF hl hK hP hD hS hA (c_X4_partOf l D cI   x5 x7 x4 r213 q213) gX4_storm_X4_partOf rfl dX4_storm_213 (by decide +kernel) ⟨⟨rfl, rfl⟩, ⟨Nat.le_of_ble_eq_true rfl, Nat.le_of_ble_eq_true rfl⟩, Nat.zero_le _, Nat.zero_le _⟩ (JN.ro [] rfl rfl) rfl rfl (Nat.le_of_ble_eq_true rfl) (fun H locs hP hD hS => ?_)
        obtain ⟨rfl, rfl, rfl⟩ := rtv3 h
        exact rL hQ hx hb hr hlocks hAe hP hS rfl dX4_storm_216
      · replace h := fx_ite_f c102 h
        refine lv_lconst (v := 1) hx hb dX4_storm_105 (by decide) ?_
        refine lv_lstore (lv' := [(10, .long (1 : Int64)), (0, .ref (a 0)), (1, .int x1), (2, .int x2), (3, .int x3), (4, .int x4), (5, .long x5), (7, .long x7), (9, .int x9)]) hx hb dX4_storm_106 hl (by decide) rfl (fun ls hl => ?_)
        refine lv_aload_n hx hb dX4_storm_108 rfl (lv_at hl 1 rfl) ?_
        refine va_get (D := D) (ci := 4) (v := .ref (a 1)) (C := RX4) (T := TX4) (N := 16) hx hb hts i4 hown hK hP 0 rfl rfl 0 (by decide) f9 (fun _ h9 => h9) rfl dX4_storm_109 ?_
        refine lv_aload_n hx hb dX4_storm_112 rfl (lv_at hl 1 rfl) ?_
        refine va_get (D := D) (ci := 4) (v := .ref (a 2)) (C := RX4) (T := TX4) (N := 16) hx hb hts i4 hown hK hP 0 rfl rfl 1 (by decide) f13 (fun _ h9 => h9) rfl dX4_storm_113 ?_
        obtain ⟨u116_mm, q116, h⟩ := bnd1_inv h
        refine kSV (n := 2) (As := [.ref (a 1), .ref (a 2)]) (rest := []) CF hl hK hP hD hS hA (c_X4_copies l D cI (a 1) (a 2) ss mm  u116_mm q116) gX4_storm_X4_copies rfl dX4_storm_116 (by decide +kernel) ⟨⟨rfl, rfl⟩, ⟨Nat.le_of_ble_eq_true rfl, Nat.le_of_ble_eq_true rfl⟩, Nat.zero_le _, Nat.zero_le _⟩ (JN.sub (wst' := (cM a cI ss u116_mm im wa hi le ro re lm rm pl nu gi bg bm sd)) [1, 2] rfl rfl rfl rfl) rfl rfl (Nat.le_of_ble_eq_true rfl) (fun H locs hP hD hS => ?_)
        replace hP : va_P D vwCl (cM a cI ss u116_mm im wa hi le ro re lm rm pl nu gi bg bm sd) H := hP
        replace hD : va_D A (cM a cI ss u116_mm im wa hi le ro re lm rm pl nu gi bg bm sd) := hD
        refine lv_iconst (v := 0) hx hb dX4_storm_119 (by decide) ?_
        refine lv_istore (lv' := [(12, .int (0 : Int32)), (10, .long (1 : Int64)), (0, .ref (a 0)), (1, .int x1), (2, .int x2), (3, .int x3), (4, .int x4), (5, .long x5), (7, .long x7), (9, .int x9)]) hx hb dX4_storm_120 hl (by decide) rfl (fun ls hl => ?_)
        refine L122 FU _ _ _ _ _ _ _ _ _ _ _ _ h (fun x10 mm h H locs ls hP hD hS hl => ?_) _ _ _ hP hD hS (lv_sub hl [2, 3, 4, 5, 6, 7, 8, 9, 1, 0] rfl)
        refine lv_lload hx hb dX4_storm_179 (lv_at hl 5 rfl) ?_
        refine lv_aload_n hx hb dX4_storm_181 rfl (lv_at hl 0 rfl) ?_
        refine va_get (D := D) (ci := 4) (v := .ref (a 2)) (C := RX4) (T := TX4) (N := 16) hx hb hts i4 hown hK hP 0 rfl rfl 1 (by decide) f13 (fun _ h9 => h9) rfl dX4_storm_182 ?_
        refine lv_iload_n hx hb dX4_storm_185 rfl (lv_at hl 1 rfl) ?_
        obtain ⟨r186, q186, h⟩ := bnd1_inv h
        refine kSI (n := 2) (As := [.ref (a 2), .int x1]) (rest := [.long x5]) CF hl hK hP hD hS hA (c_X4_isWhole l D cI (a 2) mm x1 r186 q186) gX4_storm_X4_isWhole rfl dX4_storm_186 (by decide +kernel) ⟨⟨rfl, rfl⟩, ⟨Nat.le_of_ble_eq_true rfl, Nat.le_of_ble_eq_true rfl⟩, Nat.zero_le _, Nat.zero_le _⟩ (JN.ro [2] rfl rfl) rfl rfl (Nat.le_of_ble_eq_true rfl) (fun H locs hP hD hS => ?_)
        refine lv_if_eq (tgt := 197) hx hb dX4_storm_189 (by decide) (fun c189 => ?_) (fun c189 => ?_)
        · replace h := fx_ite_t c189 h
          refine lv_lconst (v := 0) hx hb dX4_storm_197 (by decide) ?_
          refine lv_ladd hx hb dX4_storm_198 ?_
          refine lv_lstore (lv' := [(5, .long (x5 + (0 : Int64))), (0, .ref (a 0)), (1, .int x1), (2, .int x2), (3, .int x3), (4, .int x4), (7, .long x7), (9, .int x9), (10, .long x10)]) hx hb dX4_storm_199 hl (by decide) rfl (fun ls hl => ?_)
          refine lv_iinc (v := (x9 + 1)) (lv' := [(9, .int (x9 + 1)), (5, .long (x5 + (0 : Int64))), (0, .ref (a 0)), (1, .int x1), (2, .int x2), (3, .int x3), (4, .int x4), (7, .long x7), (10, .long x10)]) hx hb dX4_storm_201 hl (k := 7) rfl (by first | rfl | decide) (by decide) rfl (fun ls hl => ?_)
          refine lv_goto (tgt := 97) hx hb dX4_storm_204 (by decide) ?_
          exact ih _ _ _ _ _ _ _ _ _ h  _ _ _ hP hD hS (lv_sub hl [2, 3, 4, 5, 6, 1, 7, 0] rfl)
        · replace h := fx_ite_f c189 h
          refine lv_lload hx hb dX4_storm_192 (lv_at hl 8 rfl) ?_
          refine lv_goto (tgt := 198) hx hb dX4_storm_194 (by decide) ?_
          refine lv_ladd hx hb dX4_storm_198 ?_
          refine lv_lstore (lv' := [(5, .long (x5 + x10)), (0, .ref (a 0)), (1, .int x1), (2, .int x2), (3, .int x3), (4, .int x4), (7, .long x7), (9, .int x9), (10, .long x10)]) hx hb dX4_storm_199 hl (by decide) rfl (fun ls hl => ?_)
          refine lv_iinc (v := (x9 + 1)) (lv' := [(9, .int (x9 + 1)), (5, .long (x5 + x10)), (0, .ref (a 0)), (1, .int x1), (2, .int x2), (3, .int x3), (4, .int x4), (7, .long x7), (10, .long x10)]) hx hb dX4_storm_201 hl (k := 7) rfl (by first | rfl | decide) (by decide) rfl (fun ls hl => ?_)
          refine lv_goto (tgt := 97) hx hb dX4_storm_204 (by decide) ?_
          exact ih _ _ _ _ _ _ _ _ _ h  _ _ _ hP hD hS (lv_sub hl [2, 3, 4, 5, 6, 1, 7, 0] rfl)
  have L75 : ∀ (n : Nat) (x1 : Int32) (x2 : Int32) (x3 : Int32) (x4 : Int32) (x5 : Int64) (mm : (Nat → Int32)) (re : (Nat → Int32)) (x7 : Int64) (x9 : Int32), fuel (fun _ _ => none) (B_X4_storm_75 x1 x2 x3 x4 x5 ss mm re) n x7 x9 = some (res, u_mm, u_re) → 
      ∀ (H : Heap) (locs : List Loc) (ls : Array Slot), va_P D vwCl (cM a cI ss mm im wa hi le ro re lm rm pl nu gi bg bm sd) H → va_D A (cM a cI ss mm im wa hi le ro re lm rm pl nu gi bg bm sd) → va_S A s.heap H locs → lv_has ls 13 [(0, .ref (a 0)), (1, .int x1), (2, .int x2), (3, .int x3), (4, .int x4), (5, .long x5), (7, .long x7), (9, .int x9)] → W p l e { frames := 6, cells := 0, slots := 0, locals := 132 } s m args below meth c H locs 0 0 Q (F0 m 75 ls []) := by
    intro n
    induction n with
    | zero =>
      intro x1 x2 x3 x4 x5 mm re x7 x9 h
      exact nomatch (show (none : Option (Int64 × (Nat → Int32) × (Nat → Int32))) = some (res, u_mm, u_re) from h)
    | succ n ih =>
      intro x1 x2 x3 x4 x5 mm re x7 x9 h  H locs ls hP hD hS hl
      replace h : B_X4_storm_75 x1 x2 x3 x4 x5 ss mm re (fuel (fun _ _ => none) (B_X4_storm_75 x1 x2 x3 x4 x5 ss mm re) n) x7 x9 = some (res, u_mm, u_re) := h
      unfold B_X4_storm_75 at h
      refine lv_iload hx hb dX4_storm_75 (lv_at hl 7 rfl) ?_
      refine lv_iload_n hx hb dX4_storm_77 rfl (lv_at hl 2 rfl) ?_
      refine lv_icmp_ge (tgt := 94) hx hb dX4_storm_78 (by decide) (fun c78 => ?_) (fun c78 => ?_)
      · replace h := fx_ite_t c78 h
        refine lv_iconst (v := 0) hx hb dX4_storm_94 (by decide) ?_
        refine lv_istore (lv' := [(9, .int (0 : Int32)), (0, .ref (a 0)), (1, .int x1), (2, .int x2), (3, .int x3), (4, .int x4), (5, .long x5), (7, .long x7)]) hx hb dX4_storm_95 hl (by decide) rfl (fun ls hl => ?_)
        exact L97 FU _ _ _ _ _ _ _ _ _ h  _ _ _ hP hD hS (lv_sub hl [1, 2, 3, 4, 5, 6, 7, 0] rfl)
      · replace h := fx_ite_f c78 h
        refine lv_lload hx hb dX4_storm_81 (lv_at hl 6 rfl) ?_
        refine lv_iload_n hx hb dX4_storm_83 rfl (lv_at hl 3 rfl) ?_
        refine lv_i2l hx hb dX4_storm_84 rfl ?_
        refine lv_lmul hx hb dX4_storm_85 ?_
        refine lv_lstore (lv' := [(7, .long (x7 * (Int32.toInt64 x3))), (0, .ref (a 0)), (1, .int x1), (2, .int x2), (3, .int x3), (4, .int x4), (5, .long x5), (9, .int x9)]) hx hb dX4_storm_86 hl (by decide) rfl (fun ls hl => ?_)
        refine lv_iinc (v := (x9 + 1)) (lv' := [(9, .int (x9 + 1)), (7, .long (x7 * (Int32.toInt64 x3))), (0, .ref (a 0)), (1, .int x1), (2, .int x2), (3, .int x3), (4, .int x4), (5, .long x5)]) hx hb dX4_storm_88 hl (k := 7) rfl (by first | rfl | decide) (by decide) rfl (fun ls hl => ?_)
        refine lv_goto (tgt := 75) hx hb dX4_storm_91 (by decide) ?_
        exact ih _ _ _ _ _ _ _ _ _ h  _ _ _ hP hD hS (lv_sub hl [2, 3, 4, 5, 6, 7, 1, 0] rfl)
  unfold M_X4_storm at h
  refine lv_aload_n hx hb dX4_storm_0 rfl (lv_at hl 0 rfl) ?_
  refine lv_iload_n hx hb dX4_storm_1 rfl (lv_at hl 1 rfl) ?_
  obtain ⟨r2, q2, h⟩ := bnd1_inv h
  refine kVI (n := 1) (As := [.int p1]) (rest := []) CF hl hK hP hD hS hA (c_X4_isThing l D cI a ss mm im wa hi le ro re lm rm pl nu gi bg bm sd p1 r2 q2) gX4_storm_X4_isThing rfl dX4_storm_2 (by decide +kernel) ⟨⟨rfl, rfl⟩, ⟨Nat.le_of_ble_eq_true rfl, Nat.le_of_ble_eq_true rfl⟩, Nat.zero_le _, Nat.zero_le _⟩ (JN.whole rfl) 0 rfl ⟨rfl, rfl⟩ rfl rfl (Nat.le_of_ble_eq_true rfl) (fun H locs hP hD hS => ?_)
  replace hP : va_P D vwCl (cM a cI ss mm im wa hi le ro re lm rm pl nu gi bg bm sd) H := hP
  replace hD : va_D A (cM a cI ss mm im wa hi le ro re lm rm pl nu gi bg bm sd) := hD
  refine lv_if_ne (tgt := 14) hx hb dX4_storm_5 (by decide) (fun c5 => ?_) (fun c5 => ?_)
  · replace h := fx_ite_f c5 h
    refine lv_iload_n hx hb dX4_storm_14 rfl (lv_at hl 2 rfl) ?_
    refine lv_if_lt (tgt := 23) hx hb dX4_storm_15 (by decide) (fun c15 => ?_) (fun c15 => ?_)
    · replace h := fx_ite_t c15 h
      refine lv_aload_n hx hb dX4_storm_23 rfl (lv_at hl 0 rfl) ?_
      refine lv_bipush (v := (-4)) hx hb dX4_storm_24 (by decide) ?_
      obtain ⟨r26, u26_re, q26, h⟩ := bnd2_inv h
      refine kVL (n := 1) (As := [.int (-4 : Int32)]) (rest := []) CF hl hK hP hD hS hA (c_X4_noWide l D cI a ss mm im wa hi le ro re lm rm pl nu gi bg bm sd (-4 : Int32) r26 u26_re q26) gX4_storm_X4_noWide rfl dX4_storm_26 (by decide +kernel) ⟨⟨rfl, rfl⟩, ⟨Nat.le_of_ble_eq_true rfl, Nat.le_of_ble_eq_true rfl⟩, Nat.zero_le _, Nat.zero_le _⟩ (JN.whole (w1 := (cM a cI ss mm im wa hi le ro u26_re lm rm pl nu gi bg bm sd)) rfl) 0 rfl ⟨rfl, rfl⟩ rfl rfl (Nat.le_of_ble_eq_true rfl) (fun H locs hP hD hS => ?_)
      replace hP : va_P D vwCl (cM a cI ss mm im wa hi le ro u26_re lm rm pl nu gi bg bm sd) H := hP
      replace hD : va_D A (cM a cI ss mm im wa hi le ro u26_re lm rm pl nu gi bg bm sd) := hD
      obtain ⟨rfl, rfl, rfl⟩ := rtv3 h
      exact rL hQ hx hb hr hlocks hAe hP hS rfl dX4_storm_29
    · replace h := fx_ite_f c15 h
      refine lv_iload_n hx hb dX4_storm_18 rfl (lv_at hl 3 rfl) ?_
      refine lv_iconst (v := 2) hx hb dX4_storm_19 (by decide) ?_
      refine lv_icmp_ge (tgt := 30) hx hb dX4_storm_20 (by decide) (fun c20 => ?_) (fun c20 => ?_)
      · replace h := fx_ite_t c20 h
        refine lv_iload_n hx hb dX4_storm_30 rfl (lv_at hl 2 rfl) ?_
        refine lv_bipush (v := 7) hx hb dX4_storm_31 (by decide) ?_
        refine lv_icmp_gt (tgt := 42) hx hb dX4_storm_33 (by decide) (fun c33 => ?_) (fun c33 => ?_)
        · replace h := fx_ite_t c33 h
          refine lv_aload_n hx hb dX4_storm_42 rfl (lv_at hl 0 rfl) ?_
          refine lv_bipush (v := (-6)) hx hb dX4_storm_43 (by decide) ?_
          obtain ⟨r45, u45_re, q45, h⟩ := bnd2_inv h
          refine kVL (n := 1) (As := [.int (-6 : Int32)]) (rest := []) CF hl hK hP hD hS hA (c_X4_noWide l D cI a ss mm im wa hi le ro re lm rm pl nu gi bg bm sd (-6 : Int32) r45 u45_re q45) gX4_storm_X4_noWide rfl dX4_storm_45 (by decide +kernel) ⟨⟨rfl, rfl⟩, ⟨Nat.le_of_ble_eq_true rfl, Nat.le_of_ble_eq_true rfl⟩, Nat.zero_le _, Nat.zero_le _⟩ (JN.whole (w1 := (cM a cI ss mm im wa hi le ro u45_re lm rm pl nu gi bg bm sd)) rfl) 0 rfl ⟨rfl, rfl⟩ rfl rfl (Nat.le_of_ble_eq_true rfl) (fun H locs hP hD hS => ?_)
          replace hP : va_P D vwCl (cM a cI ss mm im wa hi le ro u45_re lm rm pl nu gi bg bm sd) H := hP
          replace hD : va_D A (cM a cI ss mm im wa hi le ro u45_re lm rm pl nu gi bg bm sd) := hD
          obtain ⟨rfl, rfl, rfl⟩ := rtv3 h
          exact rL hQ hx hb hr hlocks hAe hP hS rfl dX4_storm_48
        · replace h := fx_ite_f c33 h
          refine lv_iload_n hx hb dX4_storm_36 rfl (lv_at hl 3 rfl) ?_
          refine lv_bipush (v := 20) hx hb dX4_storm_37 (by decide) ?_
          refine lv_icmp_le (tgt := 49) hx hb dX4_storm_39 (by decide) (fun c39 => ?_) (fun c39 => ?_)
          · replace h := fx_ite_t c39 h
            refine lv_iload hx hb dX4_storm_49 (lv_at hl 4 rfl) ?_
            refine lv_iconst (v := 0) hx hb dX4_storm_51 (by decide) ?_
            refine lv_iconst (v := 1) hx hb dX4_storm_52 (by decide) ?_
            obtain ⟨r53, q53, h⟩ := bnd1_inv h
            refine kSI (n := 3) (As := [.int p4, .int (0 : Int32), .int (1 : Int32)]) (rest := []) CF hl hK hP hD hS hA (c_X4_isIn l D cI   p4 (0 : Int32) (1 : Int32) r53 q53) gX4_storm_X4_isIn rfl dX4_storm_53 (by decide +kernel) ⟨⟨rfl, rfl⟩, ⟨Nat.le_of_ble_eq_true rfl, Nat.le_of_ble_eq_true rfl⟩, Nat.zero_le _, Nat.zero_le _⟩ (JN.ro [] rfl rfl) rfl rfl (Nat.le_of_ble_eq_true rfl) (fun H locs hP hD hS => ?_)
            refine lv_if_ne (tgt := 66) hx hb dX4_storm_56 (by decide) (fun c56 => ?_) (fun c56 => ?_)
            · replace h := fx_ite_f c56 h
              refine lv_lconst (v := 0) hx hb dX4_storm_66 (by decide) ?_
              refine lv_lstore (lv' := [(5, .long (0 : Int64)), (0, .ref (a 0)), (1, .int p1), (2, .int p2), (3, .int p3), (4, .int p4)]) hx hb dX4_storm_67 hl (by decide) rfl (fun ls hl => ?_)
              refine lv_lconst (v := 1) hx hb dX4_storm_69 (by decide) ?_
              refine lv_lstore (lv' := [(7, .long (1 : Int64)), (5, .long (0 : Int64)), (0, .ref (a 0)), (1, .int p1), (2, .int p2), (3, .int p3), (4, .int p4)]) hx hb dX4_storm_70 hl (by decide) rfl (fun ls hl => ?_)
              refine lv_iconst (v := 0) hx hb dX4_storm_72 (by decide) ?_
              refine lv_istore (lv' := [(9, .int (0 : Int32)), (7, .long (1 : Int64)), (5, .long (0 : Int64)), (0, .ref (a 0)), (1, .int p1), (2, .int p2), (3, .int p3), (4, .int p4)]) hx hb dX4_storm_73 hl (by decide) rfl (fun ls hl => ?_)
              exact L75 FU _ _ _ _ _ _ _ _ _ h  _ _ _ hP hD hS (lv_sub hl [3, 4, 5, 6, 7, 2, 1, 0] rfl)
            · replace h := fx_ite_t c56 h
              refine lv_aload_n hx hb dX4_storm_59 rfl (lv_at hl 0 rfl) ?_
              refine lv_bipush (v := (-2)) hx hb dX4_storm_60 (by decide) ?_
              obtain ⟨r62, u62_re, q62, h⟩ := bnd2_inv h
              refine kVL (n := 1) (As := [.int (-2 : Int32)]) (rest := []) CF hl hK hP hD hS hA (c_X4_noWide l D cI a ss mm im wa hi le ro re lm rm pl nu gi bg bm sd (-2 : Int32) r62 u62_re q62) gX4_storm_X4_noWide rfl dX4_storm_62 (by decide +kernel) ⟨⟨rfl, rfl⟩, ⟨Nat.le_of_ble_eq_true rfl, Nat.le_of_ble_eq_true rfl⟩, Nat.zero_le _, Nat.zero_le _⟩ (JN.whole (w1 := (cM a cI ss mm im wa hi le ro u62_re lm rm pl nu gi bg bm sd)) rfl) 0 rfl ⟨rfl, rfl⟩ rfl rfl (Nat.le_of_ble_eq_true rfl) (fun H locs hP hD hS => ?_)
              replace hP : va_P D vwCl (cM a cI ss mm im wa hi le ro u62_re lm rm pl nu gi bg bm sd) H := hP
              replace hD : va_D A (cM a cI ss mm im wa hi le ro u62_re lm rm pl nu gi bg bm sd) := hD
              obtain ⟨rfl, rfl, rfl⟩ := rtv3 h
              exact rL hQ hx hb hr hlocks hAe hP hS rfl dX4_storm_65
          · replace h := fx_ite_f c39 h
            refine lv_aload_n hx hb dX4_storm_42 rfl (lv_at hl 0 rfl) ?_
            refine lv_bipush (v := (-6)) hx hb dX4_storm_43 (by decide) ?_
            obtain ⟨r45, u45_re, q45, h⟩ := bnd2_inv h
            refine kVL (n := 1) (As := [.int (-6 : Int32)]) (rest := []) CF hl hK hP hD hS hA (c_X4_noWide l D cI a ss mm im wa hi le ro re lm rm pl nu gi bg bm sd (-6 : Int32) r45 u45_re q45) gX4_storm_X4_noWide rfl dX4_storm_45 (by decide +kernel) ⟨⟨rfl, rfl⟩, ⟨Nat.le_of_ble_eq_true rfl, Nat.le_of_ble_eq_true rfl⟩, Nat.zero_le _, Nat.zero_le _⟩ (JN.whole (w1 := (cM a cI ss mm im wa hi le ro u45_re lm rm pl nu gi bg bm sd)) rfl) 0 rfl ⟨rfl, rfl⟩ rfl rfl (Nat.le_of_ble_eq_true rfl) (fun H locs hP hD hS => ?_)
            replace hP : va_P D vwCl (cM a cI ss mm im wa hi le ro u45_re lm rm pl nu gi bg bm sd) H := hP
            replace hD : va_D A (cM a cI ss mm im wa hi le ro u45_re lm rm pl nu gi bg bm sd) := hD
            obtain ⟨rfl, rfl, rfl⟩ := rtv3 h
            exact rL hQ hx hb hr hlocks hAe hP hS rfl dX4_storm_48
      · replace h := fx_ite_f c20 h
        refine lv_aload_n hx hb dX4_storm_23 rfl (lv_at hl 0 rfl) ?_
        refine lv_bipush (v := (-4)) hx hb dX4_storm_24 (by decide) ?_
        obtain ⟨r26, u26_re, q26, h⟩ := bnd2_inv h
        refine kVL (n := 1) (As := [.int (-4 : Int32)]) (rest := []) CF hl hK hP hD hS hA (c_X4_noWide l D cI a ss mm im wa hi le ro re lm rm pl nu gi bg bm sd (-4 : Int32) r26 u26_re q26) gX4_storm_X4_noWide rfl dX4_storm_26 (by decide +kernel) ⟨⟨rfl, rfl⟩, ⟨Nat.le_of_ble_eq_true rfl, Nat.le_of_ble_eq_true rfl⟩, Nat.zero_le _, Nat.zero_le _⟩ (JN.whole (w1 := (cM a cI ss mm im wa hi le ro u26_re lm rm pl nu gi bg bm sd)) rfl) 0 rfl ⟨rfl, rfl⟩ rfl rfl (Nat.le_of_ble_eq_true rfl) (fun H locs hP hD hS => ?_)
        replace hP : va_P D vwCl (cM a cI ss mm im wa hi le ro u26_re lm rm pl nu gi bg bm sd) H := hP
        replace hD : va_D A (cM a cI ss mm im wa hi le ro u26_re lm rm pl nu gi bg bm sd) := hD
        obtain ⟨rfl, rfl, rfl⟩ := rtv3 h
        exact rL hQ hx hb hr hlocks hAe hP hS rfl dX4_storm_29
  · replace h := fx_ite_t c5 h
    refine lv_aload_n hx hb dX4_storm_8 rfl (lv_at hl 0 rfl) ?_
    refine lv_iconst (v := (-1)) hx hb dX4_storm_9 (by decide) ?_
    obtain ⟨r10, u10_re, q10, h⟩ := bnd2_inv h
    refine kVL (n := 1) (As := [.int (-1 : Int32)]) (rest := []) CF hl hK hP hD hS hA (c_X4_noWide l D cI a ss mm im wa hi le ro re lm rm pl nu gi bg bm sd (-1 : Int32) r10 u10_re q10) gX4_storm_X4_noWide rfl dX4_storm_10 (by decide +kernel) ⟨⟨rfl, rfl⟩, ⟨Nat.le_of_ble_eq_true rfl, Nat.le_of_ble_eq_true rfl⟩, Nat.zero_le _, Nat.zero_le _⟩ (JN.whole (w1 := (cM a cI ss mm im wa hi le ro u10_re lm rm pl nu gi bg bm sd)) rfl) 0 rfl ⟨rfl, rfl⟩ rfl rfl (Nat.le_of_ble_eq_true rfl) (fun H locs hP hD hS => ?_)
    replace hP : va_P D vwCl (cM a cI ss mm im wa hi le ro u10_re lm rm pl nu gi bg bm sd) H := hP
    replace hD : va_D A (cM a cI ss mm im wa hi le ro u10_re lm rm pl nu gi bg bm sd) := hD
    obtain ⟨rfl, rfl, rfl⟩ := rtv3 h
    exact rL hQ hx hb hr hlocks hAe hP hS rfl dX4_storm_13
/-! X4_mean -/
set_option maxHeartbeats 4000000 in
set_option maxRecDepth 100000 in
theorem c_X4_mean (l : Launch) (D : va_G) (cI : ClassId) (a : Nat → Nat) (ss : (Nat → Int32)) (mm : (Nat → Int32)) (im : (Nat → Int32)) (wa : (Nat → Int32)) (hi : Int32) (le : (Nat → Int32)) (ro : (Nat → Int32)) (re : (Nat → Int32)) (lm : Int32) (rm : Int32) (pl : Int32) (nu : (Nat → Int32)) (gi : (Nat → Int32)) (bg : (Nat → Int32)) (bm : Int32) (sd : Int32) (p1 : Int32) (res : Int64) (u_re : (Nat → Int32)) (h : M_X4_mean ss re p1 = some (res, u_re)) : mL l yX4_mean wsX4_mean { frames := 3, cells := 0, slots := 0, locals := 63 } D cI [.ref (a 0), .int p1] (cM a cI ss mm im wa hi le ro re lm rm pl nu gi bg bm sd) (cM a cI ss mm im wa hi le ro u_re lm rm pl nu gi bg bm sd) res := by
  intro sz
  refine mStart (cc := cX4_mean) (maxL := 5) (ret := (some .long)) (own := RX4) (by decide) rfl rfl (Nat.le_of_ble_eq_true rfl) (lv := [(0, .ref (a 0)), (1, .int p1)]) rfl ?_
  intro p e s m args below meth c A ls Q H locs CF hr hlocks hK hP hD hS hA hAe hl hQ
  obtain ⟨hx, hb, hml, hown, hts⟩ := id CF
  have f9 := hts (.fieldLink RX4 9 "MendAnothersBreakingModel" "s" "[I") (List.mem_of_getElem? (i := 1) rfl)
  have i4 : ∀ w ∈ wsX40, w ∈ wsX4_mean := fun w h => List.mem_cons_of_mem _ (List.mem_append_right _ h)
  have L21 : ∀ (n : Nat) (x1 : Int32) (re : (Nat → Int32)) (x2 : Int64) (x4 : Int32), fuel (fun _ _ => none) (B_X4_mean_21 x1 ss re) n x2 x4 = some (res, u_re) → 
      ∀ (H : Heap) (locs : List Loc) (ls : Array Slot), va_P D vwCl (cM a cI ss mm im wa hi le ro re lm rm pl nu gi bg bm sd) H → va_D A (cM a cI ss mm im wa hi le ro re lm rm pl nu gi bg bm sd) → va_S A s.heap H locs → lv_has ls 5 [(0, .ref (a 0)), (1, .int x1), (2, .long x2), (4, .int x4)] → W p l e { frames := 3, cells := 0, slots := 0, locals := 63 } s m args below meth c H locs 0 0 Q (F0 m 21 ls []) := by
    intro n
    induction n with
    | zero =>
      intro x1 re x2 x4 h
      exact nomatch (show (none : Option (Int64 × (Nat → Int32))) = some (res, u_re) from h)
    | succ n ih =>
      intro x1 re x2 x4 h  H locs ls hP hD hS hl
      replace h : B_X4_mean_21 x1 ss re (fuel (fun _ _ => none) (B_X4_mean_21 x1 ss re) n) x2 x4 = some (res, u_re) := h
      unfold B_X4_mean_21 at h
      refine lv_iload hx hb dX4_mean_21 (lv_at hl 3 rfl) ?_
      refine lv_aload_n hx hb dX4_mean_23 rfl (lv_at hl 0 rfl) ?_
      refine va_get (D := D) (ci := 4) (v := .ref (a 1)) (C := RX4) (T := TX4) (N := 16) hx hb hts i4 hown hK hP 0 rfl rfl 0 (by decide) f9 (fun _ h9 => h9) rfl dX4_mean_24 ?_
      refine lv_iconst (v := 1) hx hb dX4_mean_27 (by decide) ?_
      refine ald (n := 61) (f := ss) (k := 1) hx hb hK hP 1 0 rfl rfl (fx_lit rfl) rfl dX4_mean_28 ?_
      refine lv_icmp_ge (tgt := 70) hx hb dX4_mean_29 (by decide) (fun c29 => ?_) (fun c29 => ?_)
      · replace h := fx_ite_t c29 h
        refine lv_lload_n hx hb dX4_mean_70 rfl (lv_at hl 2 rfl) ?_
        refine lv_aload_n hx hb dX4_mean_71 rfl (lv_at hl 0 rfl) ?_
        refine va_get (D := D) (ci := 4) (v := .ref (a 1)) (C := RX4) (T := TX4) (N := 16) hx hb hts i4 hown hK hP 0 rfl rfl 0 (by decide) f9 (fun _ h9 => h9) rfl dX4_mean_72 ?_
        obtain ⟨r75, q75, h⟩ := bnd1_inv h
        refine kSI (n := 1) (As := [.ref (a 1)]) (rest := [.long x2]) CF hl hK hP hD hS hA (c_X4_wholeSet l D cI (a 1) ss  r75 q75) gX4_mean_X4_wholeSet rfl dX4_mean_75 (by decide +kernel) ⟨⟨rfl, rfl⟩, ⟨Nat.le_of_ble_eq_true rfl, Nat.le_of_ble_eq_true rfl⟩, Nat.zero_le _, Nat.zero_le _⟩ (JN.ro [1] rfl rfl) rfl rfl (Nat.le_of_ble_eq_true rfl) (fun H locs hP hD hS => ?_)
        obtain ⟨r78, q78, h⟩ := bnd1_inv h
        refine kSI (n := 1) (As := [.int r75]) (rest := [.long x2]) CF hl hK hP hD hS hA (c_X4_bits l D cI   r75 r78 q78) gX4_mean_X4_bits rfl dX4_mean_78 (by decide +kernel) ⟨⟨rfl, rfl⟩, ⟨Nat.le_of_ble_eq_true rfl, Nat.le_of_ble_eq_true rfl⟩, Nat.zero_le _, Nat.zero_le _⟩ (JN.ro [] rfl rfl) rfl rfl (Nat.le_of_ble_eq_true rfl) (fun H locs hP hD hS => ?_)
        refine lv_i2l hx hb dX4_mean_81 rfl ?_
        refine lv_iload_n hx hb dX4_mean_82 rfl (lv_at hl 1 rfl) ?_
        obtain ⟨r83, q83, h⟩ := bnd1_inv h
        refine kSL (n := 3) (As := [.long x2, .long (Int32.toInt64 r78), .int x1]) (rest := []) CF hl hK hP hD hS hA (c_X4_partOf l D cI   x2 (Int32.toInt64 r78) x1 r83 q83) gX4_mean_X4_partOf rfl dX4_mean_83 (by decide +kernel) ⟨⟨rfl, rfl⟩, ⟨Nat.le_of_ble_eq_true rfl, Nat.le_of_ble_eq_true rfl⟩, Nat.zero_le _, Nat.zero_le _⟩ (JN.ro [] rfl rfl) rfl rfl (Nat.le_of_ble_eq_true rfl) (fun H locs hP hD hS => ?_)
        obtain ⟨rfl, rfl⟩ := rtv2 h
        exact rL hQ hx hb hr hlocks hAe hP hS rfl dX4_mean_86
      · replace h := fx_ite_f c29 h
        refine lv_lload_n hx hb dX4_mean_32 rfl (lv_at hl 2 rfl) ?_
        refine lv_aload_n hx hb dX4_mean_33 rfl (lv_at hl 0 rfl) ?_
        refine va_get (D := D) (ci := 4) (v := .ref (a 1)) (C := RX4) (T := TX4) (N := 16) hx hb hts i4 hown hK hP 0 rfl rfl 0 (by decide) f9 (fun _ h9 => h9) rfl dX4_mean_34 ?_
        refine lv_iload hx hb dX4_mean_37 (lv_at hl 3 rfl) ?_
        obtain ⟨r39, q39, h⟩ := bnd1_inv h
        refine kSI (n := 2) (As := [.ref (a 1), .int x4]) (rest := [.long x2]) CF hl hK hP hD hS hA (c_X4_isWhole l D cI (a 1) ss x4 r39 q39) gX4_mean_X4_isWhole rfl dX4_mean_39 (by decide +kernel) ⟨⟨rfl, rfl⟩, ⟨Nat.le_of_ble_eq_true rfl, Nat.le_of_ble_eq_true rfl⟩, Nat.zero_le _, Nat.zero_le _⟩ (JN.ro [1] rfl rfl) rfl rfl (Nat.le_of_ble_eq_true rfl) (fun H locs hP hD hS => ?_)
        refine lv_if_eq (tgt := 61) hx hb dX4_mean_42 (by decide) (fun c42 => ?_) (fun c42 => ?_)
        · replace h := fx_ite_t c42 h
          refine lv_lconst (v := 0) hx hb dX4_mean_61 (by decide) ?_
          refine lv_ladd hx hb dX4_mean_62 ?_
          refine lv_lstore_n (lv' := [(2, .long (x2 + (0 : Int64))), (0, .ref (a 0)), (1, .int x1), (4, .int x4)]) hx hb dX4_mean_63 rfl hl (by decide) rfl (fun ls hl => ?_)
          refine lv_iinc (v := (x4 + 1)) (lv' := [(4, .int (x4 + 1)), (2, .long (x2 + (0 : Int64))), (0, .ref (a 0)), (1, .int x1)]) hx hb dX4_mean_64 hl (k := 3) rfl (by first | rfl | decide) (by decide) rfl (fun ls hl => ?_)
          refine lv_goto (tgt := 21) hx hb dX4_mean_67 (by decide) ?_
          exact ih _ _ _ _ h  _ _ _ hP hD hS (lv_sub hl [2, 3, 1, 0] rfl)
        · replace h := fx_ite_f c42 h
          refine lv_aload_n hx hb dX4_mean_45 rfl (lv_at hl 0 rfl) ?_
          refine va_get (D := D) (ci := 4) (v := .ref (a 1)) (C := RX4) (T := TX4) (N := 16) hx hb hts i4 hown hK hP 0 rfl rfl 0 (by decide) f9 (fun _ h9 => h9) rfl dX4_mean_46 ?_
          refine lv_iload hx hb dX4_mean_49 (lv_at hl 3 rfl) ?_
          obtain ⟨r51, q51, h⟩ := bnd1_inv h
          refine kSI (n := 1) (As := [.int x4]) (rest := [.ref (a 1), .long x2]) CF hl hK hP hD hS hA (c_X4_ofT l D cI   x4 r51 q51) gX4_mean_X4_ofT rfl dX4_mean_51 (by decide +kernel) ⟨⟨rfl, rfl⟩, ⟨Nat.le_of_ble_eq_true rfl, Nat.le_of_ble_eq_true rfl⟩, Nat.zero_le _, Nat.zero_le _⟩ (JN.ro [] rfl rfl) rfl rfl (Nat.le_of_ble_eq_true rfl) (fun H locs hP hD hS => ?_)
          refine lv_iconst (v := 3) hx hb dX4_mean_54 (by decide) ?_
          refine lv_iadd hx hb dX4_mean_55 ?_
          obtain ⟨g56, h⟩ := chk_inv h
          refine va_iald (n := 61) (f := ss) hx hb hK hP 1 0 rfl rfl g56 dX4_mean_56 ?_
          refine lv_i2l hx hb dX4_mean_57 rfl ?_
          refine lv_goto (tgt := 62) hx hb dX4_mean_58 (by decide) ?_
          refine lv_ladd hx hb dX4_mean_62 ?_
          refine lv_lstore_n (lv' := [(2, .long (x2 + (Int32.toInt64 (ss (Int32.toNatClampNeg (r51 + (3 : Int32))))))), (0, .ref (a 0)), (1, .int x1), (4, .int x4)]) hx hb dX4_mean_63 rfl hl (by decide) rfl (fun ls hl => ?_)
          refine lv_iinc (v := (x4 + 1)) (lv' := [(4, .int (x4 + 1)), (2, .long (x2 + (Int32.toInt64 (ss (Int32.toNatClampNeg (r51 + (3 : Int32))))))), (0, .ref (a 0)), (1, .int x1)]) hx hb dX4_mean_64 hl (k := 3) rfl (by first | rfl | decide) (by decide) rfl (fun ls hl => ?_)
          refine lv_goto (tgt := 21) hx hb dX4_mean_67 (by decide) ?_
          exact ih _ _ _ _ h  _ _ _ hP hD hS (lv_sub hl [2, 3, 1, 0] rfl)
  unfold M_X4_mean at h
  refine lv_iload_n hx hb dX4_mean_0 rfl (lv_at hl 1 rfl) ?_
  refine lv_iconst (v := 0) hx hb dX4_mean_1 (by decide) ?_
  refine lv_iconst (v := 1) hx hb dX4_mean_2 (by decide) ?_
  obtain ⟨r3, q3, h⟩ := bnd1_inv h
  refine kSI (n := 3) (As := [.int p1, .int (0 : Int32), .int (1 : Int32)]) (rest := []) CF hl hK hP hD hS hA (c_X4_isIn l D cI   p1 (0 : Int32) (1 : Int32) r3 q3) gX4_mean_X4_isIn rfl dX4_mean_3 (by decide +kernel) ⟨⟨rfl, rfl⟩, ⟨Nat.le_of_ble_eq_true rfl, Nat.le_of_ble_eq_true rfl⟩, Nat.zero_le _, Nat.zero_le _⟩ (JN.ro [] rfl rfl) rfl rfl (Nat.le_of_ble_eq_true rfl) (fun H locs hP hD hS => ?_)
  refine lv_if_ne (tgt := 16) hx hb dX4_mean_6 (by decide) (fun c6 => ?_) (fun c6 => ?_)
  · replace h := fx_ite_f c6 h
    refine lv_lconst (v := 0) hx hb dX4_mean_16 (by decide) ?_
    refine lv_lstore_n (lv' := [(2, .long (0 : Int64)), (0, .ref (a 0)), (1, .int p1)]) hx hb dX4_mean_17 rfl hl (by decide) rfl (fun ls hl => ?_)
    refine lv_iconst (v := 0) hx hb dX4_mean_18 (by decide) ?_
    refine lv_istore (lv' := [(4, .int (0 : Int32)), (2, .long (0 : Int64)), (0, .ref (a 0)), (1, .int p1)]) hx hb dX4_mean_19 hl (by decide) rfl (fun ls hl => ?_)
    exact L21 FU _ _ _ _ h  _ _ _ hP hD hS (lv_sub hl [2, 3, 1, 0] rfl)
  · replace h := fx_ite_t c6 h
    refine lv_aload_n hx hb dX4_mean_9 rfl (lv_at hl 0 rfl) ?_
    refine lv_bipush (v := (-2)) hx hb dX4_mean_10 (by decide) ?_
    obtain ⟨r12, u12_re, q12, h⟩ := bnd2_inv h
    refine kVL (n := 1) (As := [.int (-2 : Int32)]) (rest := []) CF hl hK hP hD hS hA (c_X4_noWide l D cI a ss mm im wa hi le ro re lm rm pl nu gi bg bm sd (-2 : Int32) r12 u12_re q12) gX4_mean_X4_noWide rfl dX4_mean_12 (by decide +kernel) ⟨⟨rfl, rfl⟩, ⟨Nat.le_of_ble_eq_true rfl, Nat.le_of_ble_eq_true rfl⟩, Nat.zero_le _, Nat.zero_le _⟩ (JN.whole (w1 := (cM a cI ss mm im wa hi le ro u12_re lm rm pl nu gi bg bm sd)) rfl) 0 rfl ⟨rfl, rfl⟩ rfl rfl (Nat.le_of_ble_eq_true rfl) (fun H locs hP hD hS => ?_)
    replace hP : va_P D vwCl (cM a cI ss mm im wa hi le ro u12_re lm rm pl nu gi bg bm sd) H := hP
    replace hD : va_D A (cM a cI ss mm im wa hi le ro u12_re lm rm pl nu gi bg bm sd) := hD
    obtain ⟨rfl, rfl⟩ := rtv2 h
    exact rL hQ hx hb hr hlocks hAe hP hS rfl dX4_mean_15
