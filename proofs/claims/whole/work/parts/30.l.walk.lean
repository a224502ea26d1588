/-! X4_whatIs -/
set_option maxHeartbeats 4000000 in
set_option maxRecDepth 100000 in
theorem c_X4_whatIs (l : Launch) (D : va_G) (cI : ClassId) (a : Nat → Nat) (ss : (Nat → Int32)) (mm : (Nat → Int32)) (im : (Nat → Int32)) (wa : (Nat → Int32)) (hi : Int32) (le : (Nat → Int32)) (ro : (Nat → Int32)) (re : (Nat → Int32)) (lm : Int32) (rm : Int32) (pl : Int32) (nu : (Nat → Int32)) (gi : (Nat → Int32)) (bg : (Nat → Int32)) (bm : Int32) (sd : Int32) (p1 : Int32) (p2 : Int32) (res : Int32) (u_mm : (Nat → Int32)) (u_re : (Nat → Int32)) (h : M_X4_whatIs ss mm ro re rm p1 p2 = some (res, u_mm, u_re)) : mI l yX4_whatIs wsX4_whatIs { frames := 6, cells := 0, slots := 0, locals := 132 } D cI [.ref (a 0), .int p1, .int p2] (cM a cI ss mm im wa hi le ro re lm rm pl nu gi bg bm sd) (cM a cI ss u_mm im wa hi le ro u_re lm rm pl nu gi bg bm sd) res := by
  intro sz
  refine mStart (cc := cX4_whatIs) (maxL := 7) (ret := (some .int)) (own := RX4) (by decide) rfl rfl (Nat.le_of_ble_eq_true rfl) (lv := [(0, .ref (a 0)), (1, .int p1), (2, .int p2)]) rfl ?_
  intro p e s m args below meth c A ls Q H locs CF hr hlocks hK hP hD hS hA hAe hl hQ
  obtain ⟨hx, hb, hml, hown, hts⟩ := id CF
  have f9 := hts (.fieldLink RX4 9 "MendAnothersBreakingModel" "s" "[I") (List.mem_of_getElem? (i := 1) rfl)
  have f13 := hts (.fieldLink RX4 13 "MendAnothersBreakingModel" "m" "[I") (List.mem_of_getElem? (i := 2) rfl)
  have f25 := hts (.fieldLink RX4 25 "MendAnothersBreakingModel" "row" "[I") (List.mem_of_getElem? (i := 4) rfl)
  have f227 := hts (.fieldLink RX4 227 "MendAnothersBreakingModel" "rowMany" "I") (List.mem_of_getElem? (i := 3) rfl)
  have i4 : ∀ w ∈ wsX40, w ∈ wsX4_whatIs := fun w h => List.mem_cons_of_mem _ (List.mem_append_right _ h)
  have L81 : ∀ (n : Nat) (x1 : Int32) (x2 : Int32) (x3 : Int32) (x4 : Int32) (re : (Nat → Int32)) (k135 : Int32 → (Nat → Int32) → Option (Int32 × (Nat → Int32) × (Nat → Int32))) (x5 : Int32) (x6 : Int32) (mm : (Nat → Int32)), fuel (fun _ _ _ => none) (B_X4_whatIs_81 x1 x2 x3 x4 ss ro re rm k135) n x5 x6 mm = some (res, u_mm, u_re) → 
      (∀ (x5 : Int32) (mm : (Nat → Int32)), k135 x5 mm = some (res, u_mm, u_re) → ∀ (H : Heap) (locs : List Loc) (ls : Array Slot), va_P D vwCl (cM a cI ss mm im wa hi le ro re lm rm pl nu gi bg bm sd) H → va_D A (cM a cI ss mm im wa hi le ro re lm rm pl nu gi bg bm sd) → va_S A s.heap H locs → lv_has ls 7 [(0, .ref (a 0)), (1, .int x1), (2, .int x2), (3, .int x3), (4, .int x4), (5, .int x5)] → W p l e { frames := 6, cells := 0, slots := 0, locals := 132 } s m args below meth c H locs 0 0 Q (F0 m 135 ls [])) → 
      ∀ (H : Heap) (locs : List Loc) (ls : Array Slot), va_P D vwCl (cM a cI ss mm im wa hi le ro re lm rm pl nu gi bg bm sd) H → va_D A (cM a cI ss mm im wa hi le ro re lm rm pl nu gi bg bm sd) → va_S A s.heap H locs → lv_has ls 7 [(0, .ref (a 0)), (1, .int x1), (2, .int x2), (3, .int x3), (4, .int x4), (5, .int x5), (6, .int x6)] → W p l e { frames := 6, cells := 0, slots := 0, locals := 132 } s m args below meth c H locs 0 0 Q (F0 m 81 ls []) := by
    intro n
    induction n with
    | zero =>
      intro x1 x2 x3 x4 re k135 x5 x6 mm h
      exact nomatch (show (none : Option (Int32 × (Nat → Int32) × (Nat → Int32))) = some (res, u_mm, u_re) from h)
    | succ n ih =>
      intro x1 x2 x3 x4 re k135 x5 x6 mm h hk135 H locs ls hP hD hS hl
      replace h : B_X4_whatIs_81 x1 x2 x3 x4 ss ro re rm k135 (fuel (fun _ _ _ => none) (B_X4_whatIs_81 x1 x2 x3 x4 ss ro re rm k135) n) x5 x6 mm = some (res, u_mm, u_re) := h
      unfold B_X4_whatIs_81 at h
      refine lv_iload hx hb dX4_whatIs_81 (lv_at hl 6 rfl) ?_
      refine lv_aload_n hx hb dX4_whatIs_83 rfl (lv_at hl 0 rfl) ?_
      refine va_get (D := D) (ci := 4) (v := .int rm) (C := RX4) (T := TX4) (N := 16) hx hb hts i4 hown hK hP 0 rfl rfl 9 (by decide) f227 (fun _ h9 => h9) rfl dX4_whatIs_84 ?_
      refine lv_icmp_ge (tgt := 135) hx hb dX4_whatIs_87 (by decide) (fun c87 => ?_) (fun c87 => ?_)
      · replace h := fx_ite_t c87 h
        exact hk135 _ _ h _ _ _ hP hD hS (lv_sub hl [0, 1, 2, 3, 4, 5] rfl)
      · replace h := fx_ite_f c87 h
        refine lv_iload hx hb dX4_whatIs_90 (lv_at hl 5 rfl) ?_
        refine lv_aload_n hx hb dX4_whatIs_92 rfl (lv_at hl 0 rfl) ?_
        refine va_get (D := D) (ci := 4) (v := .ref (a 2)) (C := RX4) (T := TX4) (N := 16) hx hb hts i4 hown hK hP 0 rfl rfl 1 (by decide) f13 (fun _ h9 => h9) rfl dX4_whatIs_93 ?_
        refine lv_iload_n hx hb dX4_whatIs_96 rfl (lv_at hl 1 rfl) ?_
        obtain ⟨r97, q97, h⟩ := bnd1_inv h
        refine kSI (n := 1) (As := [.int x1]) (rest := [.ref (a 2), .int x5]) CF hl hK hP hD hS hA (c_X4_ofT l D cI   x1 r97 q97) gX4_whatIs_X4_ofT rfl dX4_whatIs_97 (by decide +kernel) ⟨⟨rfl, rfl⟩, ⟨Nat.le_of_ble_eq_true rfl, Nat.le_of_ble_eq_true rfl⟩, Nat.zero_le _, Nat.zero_le _⟩ (JN.ro [] rfl rfl) rfl rfl (Nat.le_of_ble_eq_true rfl) (fun H locs hP hD hS => ?_)
        refine lv_iconst (v := 3) hx hb dX4_whatIs_100 (by decide) ?_
        refine lv_iadd hx hb dX4_whatIs_101 ?_
        obtain ⟨g102, h⟩ := chk_inv h
        refine va_iald (n := 61) (f := mm) hx hb hK hP 2 0 rfl rfl g102 dX4_whatIs_102 ?_
        refine lv_aload_n hx hb dX4_whatIs_103 rfl (lv_at hl 0 rfl) ?_
        refine va_get (D := D) (ci := 4) (v := .ref (a 6)) (C := RX4) (T := TX4) (N := 16) hx hb hts i4 hown hK hP 0 rfl rfl 6 (by decide) f25 (fun _ h9 => h9) rfl dX4_whatIs_104 ?_
        refine lv_iload hx hb dX4_whatIs_107 (lv_at hl 6 rfl) ?_
        obtain ⟨g109, h⟩ := chk_inv h
        refine va_iald (n := 16) (f := ro) hx hb hK hP 6 0 rfl rfl g109 dX4_whatIs_109 ?_
        refine lv_icmp_ne (tgt := 117) hx hb dX4_whatIs_110 (by decide) (fun c110 => ?_) (fun c110 => ?_)
        · replace h := fx_ite_f c110 h
          refine lv_iconst (v := 0) hx hb dX4_whatIs_117 (by decide) ?_
          refine lv_iand hx hb dX4_whatIs_118 ?_
          refine lv_istore (lv' := [(5, .int (x5 &&& (0 : Int32))), (0, .ref (a 0)), (1, .int x1), (2, .int x2), (3, .int x3), (4, .int x4), (6, .int x6)]) hx hb dX4_whatIs_119 hl (by decide) rfl (fun ls hl => ?_)
          refine lv_aload_n hx hb dX4_whatIs_121 rfl (lv_at hl 1 rfl) ?_
          refine va_get (D := D) (ci := 4) (v := .ref (a 2)) (C := RX4) (T := TX4) (N := 16) hx hb hts i4 hown hK hP 0 rfl rfl 1 (by decide) f13 (fun _ h9 => h9) rfl dX4_whatIs_122 ?_
          refine lv_iconst (v := 1) hx hb dX4_whatIs_125 (by decide) ?_
          obtain ⟨u126_mm, q126, h⟩ := bnd1_inv h
          refine kSV (n := 2) (As := [.ref (a 2), .int (1 : Int32)]) (rest := []) CF hl hK hP hD hS hA (c_X4_day l D cI (a 2) mm (1 : Int32) u126_mm q126) gX4_whatIs_X4_day rfl dX4_whatIs_126 (by decide +kernel) ⟨⟨rfl, rfl⟩, ⟨Nat.le_of_ble_eq_true rfl, Nat.le_of_ble_eq_true rfl⟩, Nat.zero_le _, Nat.zero_le _⟩ (JN.sub (wst' := (cM a cI ss u126_mm im wa hi le ro re lm rm pl nu gi bg bm sd)) [2] rfl rfl rfl rfl) rfl rfl (Nat.le_of_ble_eq_true rfl) (fun H locs hP hD hS => ?_)
          replace hP : va_P D vwCl (cM a cI ss u126_mm im wa hi le ro re lm rm pl nu gi bg bm sd) H := hP
          replace hD : va_D A (cM a cI ss u126_mm im wa hi le ro re lm rm pl nu gi bg bm sd) := hD
          refine lv_iinc (v := (x6 + 1)) (lv' := [(6, .int (x6 + 1)), (5, .int (x5 &&& (0 : Int32))), (0, .ref (a 0)), (1, .int x1), (2, .int x2), (3, .int x3), (4, .int x4)]) hx hb dX4_whatIs_129 hl (k := 6) rfl (by first | rfl | decide) (by decide) rfl (fun ls hl => ?_)
          refine lv_goto (tgt := 81) hx hb dX4_whatIs_132 (by decide) ?_
          exact ih _ _ _ _ _ _ _ _ _ h hk135 _ _ _ hP hD hS (lv_sub hl [2, 3, 4, 5, 6, 1, 0] rfl)
        · replace h := fx_ite_t c110 h
          refine lv_iconst (v := 1) hx hb dX4_whatIs_113 (by decide) ?_
          refine lv_goto (tgt := 118) hx hb dX4_whatIs_114 (by decide) ?_
          refine lv_iand hx hb dX4_whatIs_118 ?_
          refine lv_istore (lv' := [(5, .int (x5 &&& (1 : Int32))), (0, .ref (a 0)), (1, .int x1), (2, .int x2), (3, .int x3), (4, .int x4), (6, .int x6)]) hx hb dX4_whatIs_119 hl (by decide) rfl (fun ls hl => ?_)
          refine lv_aload_n hx hb dX4_whatIs_121 rfl (lv_at hl 1 rfl) ?_
          refine va_get (D := D) (ci := 4) (v := .ref (a 2)) (C := RX4) (T := TX4) (N := 16) hx hb hts i4 hown hK hP 0 rfl rfl 1 (by decide) f13 (fun _ h9 => h9) rfl dX4_whatIs_122 ?_
          refine lv_iconst (v := 1) hx hb dX4_whatIs_125 (by decide) ?_
          obtain ⟨u126_mm, q126, h⟩ := bnd1_inv h
          refine kSV (n := 2) (As := [.ref (a 2), .int (1 : Int32)]) (rest := []) CF hl hK hP hD hS hA (c_X4_day l D cI (a 2) mm (1 : Int32) u126_mm q126) gX4_whatIs_X4_day rfl dX4_whatIs_126 (by decide +kernel) ⟨⟨rfl, rfl⟩, ⟨Nat.le_of_ble_eq_true rfl, Nat.le_of_ble_eq_true rfl⟩, Nat.zero_le _, Nat.zero_le _⟩ (JN.sub (wst' := (cM a cI ss u126_mm im wa hi le ro re lm rm pl nu gi bg bm sd)) [2] rfl rfl rfl rfl) rfl rfl (Nat.le_of_ble_eq_true rfl) (fun H locs hP hD hS => ?_)
          replace hP : va_P D vwCl (cM a cI ss u126_mm im wa hi le ro re lm rm pl nu gi bg bm sd) H := hP
          replace hD : va_D A (cM a cI ss u126_mm im wa hi le ro re lm rm pl nu gi bg bm sd) := hD
          refine lv_iinc (v := (x6 + 1)) (lv' := [(6, .int (x6 + 1)), (5, .int (x5 &&& (1 : Int32))), (0, .ref (a 0)), (1, .int x1), (2, .int x2), (3, .int x3), (4, .int x4)]) hx hb dX4_whatIs_129 hl (k := 6) rfl (by first | rfl | decide) (by decide) rfl (fun ls hl => ?_)
          refine lv_goto (tgt := 81) hx hb dX4_whatIs_132 (by decide) ?_
          exact ih _ _ _ _ _ _ _ _ _ h hk135 _ _ _ hP hD hS (lv_sub hl [2, 3, 4, 5, 6, 1, 0] rfl)
  have L35 : ∀ (n : Nat) (x1 : Int32) (x2 : Int32) (re : (Nat → Int32)) (x3 : Int32) (x4 : Int32) (mm : (Nat → Int32)), fuel (fun _ _ _ => none) (B_X4_whatIs_35 x1 x2 ss ro re rm) n x3 x4 mm = some (res, u_mm, u_re) → 
      ∀ (H : Heap) (locs : List Loc) (ls : Array Slot), va_P D vwCl (cM a cI ss mm im wa hi le ro re lm rm pl nu gi bg bm sd) H → va_D A (cM a cI ss mm im wa hi le ro re lm rm pl nu gi bg bm sd) → va_S A s.heap H locs → lv_has ls 7 [(0, .ref (a 0)), (1, .int x1), (2, .int x2), (3, .int x3), (4, .int x4)] → W p l e { frames := 6, cells := 0, slots := 0, locals := 132 } s m args below meth c H locs 0 0 Q (F0 m 35 ls []) := by
    intro n
    induction n with
    | zero =>
      intro x1 x2 re x3 x4 mm h
      exact nomatch (show (none : Option (Int32 × (Nat → Int32) × (Nat → Int32))) = some (res, u_mm, u_re) from h)
    | succ n ih =>
      intro x1 x2 re x3 x4 mm h  H locs ls hP hD hS hl
      replace h : B_X4_whatIs_35 x1 x2 ss ro re rm (fuel (fun _ _ _ => none) (B_X4_whatIs_35 x1 x2 ss ro re rm) n) x3 x4 mm = some (res, u_mm, u_re) := h
      unfold B_X4_whatIs_35 at h
      refine lv_iload hx hb dX4_whatIs_35 (lv_at hl 4 rfl) ?_
      refine lv_iload_n hx hb dX4_whatIs_37 rfl (lv_at hl 2 rfl) ?_
      refine lv_if_ne (tgt := 46) hx hb dX4_whatIs_38 (by decide) (fun c38 => ?_) (fun c38 => ?_)
      · replace h := fx_ite_f c38 h
        refine lv_bipush (v := 10) hx hb dX4_whatIs_46 (by decide) ?_
        refine lv_icmp_ge (tgt := 157) hx hb dX4_whatIs_48 (by decide) (fun c48 => ?_) (fun c48 => ?_)
        · replace h := fx_ite_t c48 h
          refine lv_iload_n hx hb dX4_whatIs_157 rfl (lv_at hl 3 rfl) ?_
          obtain ⟨rfl, rfl, rfl⟩ := rtv3 h
          exact rI hQ hx hb hr hlocks hAe hP hS rfl rfl dX4_whatIs_158
        · replace h := fx_ite_f c48 h
          refine lv_iconst (v := 1) hx hb dX4_whatIs_51 (by decide) ?_
          refine lv_istore (lv' := [(5, .int (1 : Int32)), (0, .ref (a 0)), (1, .int x1), (2, .int x2), (3, .int x3), (4, .int x4)]) hx hb dX4_whatIs_52 hl (by decide) rfl (fun ls hl => ?_)
          refine lv_aload_n hx hb dX4_whatIs_54 rfl (lv_at hl 1 rfl) ?_
          refine va_get (D := D) (ci := 4) (v := .ref (a 1)) (C := RX4) (T := TX4) (N := 16) hx hb hts i4 hown hK hP 0 rfl rfl 0 (by decide) f9 (fun _ h9 => h9) rfl dX4_whatIs_55 ?_
          refine lv_aload_n hx hb dX4_whatIs_58 rfl (lv_at hl 1 rfl) ?_
          refine va_get (D := D) (ci := 4) (v := .ref (a 2)) (C := RX4) (T := TX4) (N := 16) hx hb hts i4 hown hK hP 0 rfl rfl 1 (by decide) f13 (fun _ h9 => h9) rfl dX4_whatIs_59 ?_
          obtain ⟨u62_mm, q62, h⟩ := bnd1_inv h
          refine kSV (n := 2) (As := [.ref (a 1), .ref (a 2)]) (rest := []) CF hl hK hP hD hS hA (c_X4_copies l D cI (a 1) (a 2) ss mm  u62_mm q62) gX4_whatIs_X4_copies rfl dX4_whatIs_62 (by decide +kernel) ⟨⟨rfl, rfl⟩, ⟨Nat.le_of_ble_eq_true rfl, Nat.le_of_ble_eq_true rfl⟩, Nat.zero_le _, Nat.zero_le _⟩ (JN.sub (wst' := (cM a cI ss u62_mm im wa hi le ro re lm rm pl nu gi bg bm sd)) [1, 2] rfl rfl rfl rfl) rfl rfl (Nat.le_of_ble_eq_true rfl) (fun H locs hP hD hS => ?_)
          replace hP : va_P D vwCl (cM a cI ss u62_mm im wa hi le ro re lm rm pl nu gi bg bm sd) H := hP
          replace hD : va_D A (cM a cI ss u62_mm im wa hi le ro re lm rm pl nu gi bg bm sd) := hD
          refine lv_aload_n hx hb dX4_whatIs_65 rfl (lv_at hl 1 rfl) ?_
          refine va_get (D := D) (ci := 4) (v := .ref (a 2)) (C := RX4) (T := TX4) (N := 16) hx hb hts i4 hown hK hP 0 rfl rfl 1 (by decide) f13 (fun _ h9 => h9) rfl dX4_whatIs_66 ?_
          refine lv_iload_n hx hb dX4_whatIs_69 rfl (lv_at hl 2 rfl) ?_
          obtain ⟨r70, q70, h⟩ := bnd1_inv h
          refine kSI (n := 1) (As := [.int x1]) (rest := [.ref (a 2)]) CF hl hK hP hD hS hA (c_X4_ofT l D cI   x1 r70 q70) gX4_whatIs_X4_ofT rfl dX4_whatIs_70 (by decide +kernel) ⟨⟨rfl, rfl⟩, ⟨Nat.le_of_ble_eq_true rfl, Nat.le_of_ble_eq_true rfl⟩, Nat.zero_le _, Nat.zero_le _⟩ (JN.ro [] rfl rfl) rfl rfl (Nat.le_of_ble_eq_true rfl) (fun H locs hP hD hS => ?_)
          refine lv_iload_n hx hb dX4_whatIs_73 rfl (lv_at hl 3 rfl) ?_
          refine lv_iadd hx hb dX4_whatIs_74 ?_
          refine lv_iload hx hb dX4_whatIs_75 (lv_at hl 5 rfl) ?_
          obtain ⟨g77, h⟩ := chk_inv h
          refine va_iast (n := 61) (f := u62_mm) hx hb hK hP hD hS 2 0 rfl rfl g77 dX4_whatIs_77 (fun H locs hP hD hS => ?_)
          replace hP : va_P D vwCl (cM a cI ss (upd u62_mm (Int32.toNatClampNeg (r70 + x2)) x4) im wa hi le ro re lm rm pl nu gi bg bm sd) H := hP
          replace hD : va_D A (cM a cI ss (upd u62_mm (Int32.toNatClampNeg (r70 + x2)) x4) im wa hi le ro re lm rm pl nu gi bg bm sd) := hD
          refine lv_iconst (v := 0) hx hb dX4_whatIs_78 (by decide) ?_
          refine lv_istore (lv' := [(6, .int (0 : Int32)), (5, .int (1 : Int32)), (0, .ref (a 0)), (1, .int x1), (2, .int x2), (3, .int x3), (4, .int x4)]) hx hb dX4_whatIs_79 hl (by decide) rfl (fun ls hl => ?_)
          refine L81 FU _ _ _ _ _ _ _ _ _ h (fun x5 mm h H locs ls hP hD hS hl => ?_) _ _ _ hP hD hS (lv_sub hl [2, 3, 4, 5, 6, 1, 0] rfl)
          refine lv_iload_n hx hb dX4_whatIs_135 rfl (lv_at hl 3 rfl) ?_
          refine lv_iload hx hb dX4_whatIs_136 (lv_at hl 5 rfl) ?_
          refine lv_if_eq (tgt := 148) hx hb dX4_whatIs_138 (by decide) (fun c138 => ?_) (fun c138 => ?_)
          · replace h := fx_ite_t c138 h
            refine lv_iconst (v := 0) hx hb dX4_whatIs_148 (by decide) ?_
            refine lv_ior hx hb dX4_whatIs_149 ?_
            refine lv_istore_n (lv' := [(3, .int (x3 ||| (0 : Int32))), (0, .ref (a 0)), (1, .int x1), (2, .int x2), (4, .int x4), (5, .int x5)]) hx hb dX4_whatIs_150 rfl hl (by decide) rfl (fun ls hl => ?_)
            refine lv_iinc (v := (x4 + 1)) (lv' := [(4, .int (x4 + 1)), (3, .int (x3 ||| (0 : Int32))), (0, .ref (a 0)), (1, .int x1), (2, .int x2), (5, .int x5)]) hx hb dX4_whatIs_151 hl (k := 4) rfl (by first | rfl | decide) (by decide) rfl (fun ls hl => ?_)
            refine lv_goto (tgt := 35) hx hb dX4_whatIs_154 (by decide) ?_
            exact ih _ _ _ _ _ _ h  _ _ _ hP hD hS (lv_sub hl [2, 3, 4, 1, 0] rfl)
          · replace h := fx_ite_f c138 h
            refine lv_iconst (v := 1) hx hb dX4_whatIs_141 (by decide) ?_
            refine lv_iload hx hb dX4_whatIs_142 (lv_at hl 4 rfl) ?_
            refine lv_ishl hx hb dX4_whatIs_144 ?_
            refine lv_goto (tgt := 149) hx hb dX4_whatIs_145 (by decide) ?_
            refine lv_ior hx hb dX4_whatIs_149 ?_
            refine lv_istore_n (lv' := [(3, .int (x3 ||| ((1 : Int32) <<< (x4 &&& 31)))), (0, .ref (a 0)), (1, .int x1), (2, .int x2), (4, .int x4), (5, .int x5)]) hx hb dX4_whatIs_150 rfl hl (by decide) rfl (fun ls hl => ?_)
            refine lv_iinc (v := (x4 + 1)) (lv' := [(4, .int (x4 + 1)), (3, .int (x3 ||| ((1 : Int32) <<< (x4 &&& 31)))), (0, .ref (a 0)), (1, .int x1), (2, .int x2), (5, .int x5)]) hx hb dX4_whatIs_151 hl (k := 4) rfl (by first | rfl | decide) (by decide) rfl (fun ls hl => ?_)
            refine lv_goto (tgt := 35) hx hb dX4_whatIs_154 (by decide) ?_
            exact ih _ _ _ _ _ _ h  _ _ _ hP hD hS (lv_sub hl [2, 3, 4, 1, 0] rfl)
      · replace h := fx_ite_t c38 h
        refine lv_bipush (v := 6) hx hb dX4_whatIs_41 (by decide) ?_
        refine lv_goto (tgt := 48) hx hb dX4_whatIs_43 (by decide) ?_
        refine lv_icmp_ge (tgt := 157) hx hb dX4_whatIs_48 (by decide) (fun c48 => ?_) (fun c48 => ?_)
        · replace h := fx_ite_t c48 h
          refine lv_iload_n hx hb dX4_whatIs_157 rfl (lv_at hl 3 rfl) ?_
          obtain ⟨rfl, rfl, rfl⟩ := rtv3 h
          exact rI hQ hx hb hr hlocks hAe hP hS rfl rfl dX4_whatIs_158
        · replace h := fx_ite_f c48 h
          refine lv_iconst (v := 1) hx hb dX4_whatIs_51 (by decide) ?_
          refine lv_istore (lv' := [(5, .int (1 : Int32)), (0, .ref (a 0)), (1, .int x1), (2, .int x2), (3, .int x3), (4, .int x4)]) hx hb dX4_whatIs_52 hl (by decide) rfl (fun ls hl => ?_)
          refine lv_aload_n hx hb dX4_whatIs_54 rfl (lv_at hl 1 rfl) ?_
          refine va_get (D := D) (ci := 4) (v := .ref (a 1)) (C := RX4) (T := TX4) (N := 16) hx hb hts i4 hown hK hP 0 rfl rfl 0 (by decide) f9 (fun _ h9 => h9) rfl dX4_whatIs_55 ?_
          refine lv_aload_n hx hb dX4_whatIs_58 rfl (lv_at hl 1 rfl) ?_
          refine va_get (D := D) (ci := 4) (v := .ref (a 2)) (C := RX4) (T := TX4) (N := 16) hx hb hts i4 hown hK hP 0 rfl rfl 1 (by decide) f13 (fun _ h9 => h9) rfl dX4_whatIs_59 ?_
          obtain ⟨u62_mm, q62, h⟩ := bnd1_inv h
          refine kSV (n := 2) (As := [.ref (a 1), .ref (a 2)]) (rest := []) CF hl hK hP hD hS hA (c_X4_copies l D cI (a 1) (a 2) ss mm  u62_mm q62) gX4_whatIs_X4_copies rfl dX4_whatIs_62 (by decide +kernel) ⟨⟨rfl, rfl⟩, ⟨Nat.le_of_ble_eq_true rfl, Nat.le_of_ble_eq_true rfl⟩, Nat.zero_le _, Nat.zero_le _⟩ (JN.sub (wst' := (cM a cI ss u62_mm im wa hi le ro re lm rm pl nu gi bg bm sd)) [1, 2] rfl rfl rfl rfl) rfl rfl (Nat.le_of_ble_eq_true rfl) (fun H locs hP hD hS => ?_)
          replace hP : va_P D vwCl (cM a cI ss u62_mm im wa hi le ro re lm rm pl nu gi bg bm sd) H := hP
          replace hD : va_D A (cM a cI ss u62_mm im wa hi le ro re lm rm pl nu gi bg bm sd) := hD
          refine lv_aload_n hx hb dX4_whatIs_65 rfl (lv_at hl 1 rfl) ?_
          refine va_get (D := D) (ci := 4) (v := .ref (a 2)) (C := RX4) (T := TX4) (N := 16) hx hb hts i4 hown hK hP 0 rfl rfl 1 (by decide) f13 (fun _ h9 => h9) rfl dX4_whatIs_66 ?_
          refine lv_iload_n hx hb dX4_whatIs_69 rfl (lv_at hl 2 rfl) ?_
          obtain ⟨r70, q70, h⟩ := bnd1_inv h
          refine kSI (n := 1) (As := [.int x1]) (rest := [.ref (a 2)]) CF hl hK hP hD hS hA (c_X4_ofT l D cI   x1 r70 q70) gX4_whatIs_X4_ofT rfl dX4_whatIs_70 (by decide +kernel) ⟨⟨rfl, rfl⟩, ⟨Nat.le_of_ble_eq_true rfl, Nat.le_of_ble_eq_true rfl⟩, Nat.zero_le _, Nat.zero_le _⟩ (JN.ro [] rfl rfl) rfl rfl (Nat.le_of_ble_eq_true rfl) (fun H locs hP hD hS => ?_)
          refine lv_iload_n hx hb dX4_whatIs_73 rfl (lv_at hl 3 rfl) ?_
          refine lv_iadd hx hb dX4_whatIs_74 ?_
          refine lv_iload hx hb dX4_whatIs_75 (lv_at hl 5 rfl) ?_
          obtain ⟨g77, h⟩ := chk_inv h
          refine va_iast (n := 61) (f := u62_mm) hx hb hK hP hD hS 2 0 rfl rfl g77 dX4_whatIs_77 (fun H locs hP hD hS => ?_)
          replace hP : va_P D vwCl (cM a cI ss (upd u62_mm (Int32.toNatClampNeg (r70 + x2)) x4) im wa hi le ro re lm rm pl nu gi bg bm sd) H := hP
          replace hD : va_D A (cM a cI ss (upd u62_mm (Int32.toNatClampNeg (r70 + x2)) x4) im wa hi le ro re lm rm pl nu gi bg bm sd) := hD
          refine lv_iconst (v := 0) hx hb dX4_whatIs_78 (by decide) ?_
          refine lv_istore (lv' := [(6, .int (0 : Int32)), (5, .int (1 : Int32)), (0, .ref (a 0)), (1, .int x1), (2, .int x2), (3, .int x3), (4, .int x4)]) hx hb dX4_whatIs_79 hl (by decide) rfl (fun ls hl => ?_)
          refine L81 FU _ _ _ _ _ _ _ _ _ h (fun x5 mm h H locs ls hP hD hS hl => ?_) _ _ _ hP hD hS (lv_sub hl [2, 3, 4, 5, 6, 1, 0] rfl)
          refine lv_iload_n hx hb dX4_whatIs_135 rfl (lv_at hl 3 rfl) ?_
          refine lv_iload hx hb dX4_whatIs_136 (lv_at hl 5 rfl) ?_
          refine lv_if_eq (tgt := 148) hx hb dX4_whatIs_138 (by decide) (fun c138 => ?_) (fun c138 => ?_)
          · replace h := fx_ite_t c138 h
            refine lv_iconst (v := 0) hx hb dX4_whatIs_148 (by decide) ?_
            refine lv_ior hx hb dX4_whatIs_149 ?_
            refine lv_istore_n (lv' := [(3, .int (x3 ||| (0 : Int32))), (0, .ref (a 0)), (1, .int x1), (2, .int x2), (4, .int x4), (5, .int x5)]) hx hb dX4_whatIs_150 rfl hl (by decide) rfl (fun ls hl => ?_)
            refine lv_iinc (v := (x4 + 1)) (lv' := [(4, .int (x4 + 1)), (3, .int (x3 ||| (0 : Int32))), (0, .ref (a 0)), (1, .int x1), (2, .int x2), (5, .int x5)]) hx hb dX4_whatIs_151 hl (k := 4) rfl (by first | rfl | decide) (by decide) rfl (fun ls hl => ?_)
            refine lv_goto (tgt := 35) hx hb dX4_whatIs_154 (by decide) ?_
            exact ih _ _ _ _ _ _ h  _ _ _ hP hD hS (lv_sub hl [2, 3, 4, 1, 0] rfl)
          · replace h := fx_ite_f c138 h
            refine lv_iconst (v := 1) hx hb dX4_whatIs_141 (by decide) ?_
            refine lv_iload hx hb dX4_whatIs_142 (lv_at hl 4 rfl) ?_
            refine lv_ishl hx hb dX4_whatIs_144 ?_
            refine lv_goto (tgt := 149) hx hb dX4_whatIs_145 (by decide) ?_
            refine lv_ior hx hb dX4_whatIs_149 ?_
            refine lv_istore_n (lv' := [(3, .int (x3 ||| ((1 : Int32) <<< (x4 &&& 31)))), (0, .ref (a 0)), (1, .int x1), (2, .int x2), (4, .int x4), (5, .int x5)]) hx hb dX4_whatIs_150 rfl hl (by decide) rfl (fun ls hl => ?_)
            refine lv_iinc (v := (x4 + 1)) (lv' := [(4, .int (x4 + 1)), (3, .int (x3 ||| ((1 : Int32) <<< (x4 &&& 31)))), (0, .ref (a 0)), (1, .int x1), (2, .int x2), (5, .int x5)]) hx hb dX4_whatIs_151 hl (k := 4) rfl (by first | rfl | decide) (by decide) rfl (fun ls hl => ?_)
            refine lv_goto (tgt := 35) hx hb dX4_whatIs_154 (by decide) ?_
            exact ih _ _ _ _ _ _ h  _ _ _ hP hD hS (lv_sub hl [2, 3, 4, 1, 0] rfl)
  unfold M_X4_whatIs at h
  refine lv_aload_n hx hb dX4_whatIs_0 rfl (lv_at hl 0 rfl) ?_
  refine lv_iload_n hx hb dX4_whatIs_1 rfl (lv_at hl 1 rfl) ?_
  obtain ⟨r2, q2, h⟩ := bnd1_inv h
  refine kVI (n := 1) (As := [.int p1]) (rest := []) CF hl hK hP hD hS hA (c_X4_isThing l D cI a ss mm im wa hi le ro re lm rm pl nu gi bg bm sd p1 r2 q2) gX4_whatIs_X4_isThing rfl dX4_whatIs_2 (by decide +kernel) ⟨⟨rfl, rfl⟩, ⟨Nat.le_of_ble_eq_true rfl, Nat.le_of_ble_eq_true rfl⟩, Nat.zero_le _, Nat.zero_le _⟩ (JN.whole rfl) 0 rfl ⟨rfl, rfl⟩ rfl rfl (Nat.le_of_ble_eq_true rfl) (fun H locs hP hD hS => ?_)
  replace hP : va_P D vwCl (cM a cI ss mm im wa hi le ro re lm rm pl nu gi bg bm sd) H := hP
  replace hD : va_D A (cM a cI ss mm im wa hi le ro re lm rm pl nu gi bg bm sd) := hD
  refine lv_if_ne (tgt := 14) hx hb dX4_whatIs_5 (by decide) (fun c5 => ?_) (fun c5 => ?_)
  · replace h := fx_ite_f c5 h
    refine lv_iload_n hx hb dX4_whatIs_14 rfl (lv_at hl 2 rfl) ?_
    refine lv_iconst (v := 0) hx hb dX4_whatIs_15 (by decide) ?_
    refine lv_iconst (v := 1) hx hb dX4_whatIs_16 (by decide) ?_
    obtain ⟨r17, q17, h⟩ := bnd1_inv h
    refine kSI (n := 3) (As := [.int p2, .int (0 : Int32), .int (1 : Int32)]) (rest := []) CF hl hK hP hD hS hA (c_X4_isIn l D cI   p2 (0 : Int32) (1 : Int32) r17 q17) gX4_whatIs_X4_isIn rfl dX4_whatIs_17 (by decide +kernel) ⟨⟨rfl, rfl⟩, ⟨Nat.le_of_ble_eq_true rfl, Nat.le_of_ble_eq_true rfl⟩, Nat.zero_le _, Nat.zero_le _⟩ (JN.ro [] rfl rfl) rfl rfl (Nat.le_of_ble_eq_true rfl) (fun H locs hP hD hS => ?_)
    refine lv_if_ne (tgt := 30) hx hb dX4_whatIs_20 (by decide) (fun c20 => ?_) (fun c20 => ?_)
    · replace h := fx_ite_f c20 h
      refine lv_iconst (v := 0) hx hb dX4_whatIs_30 (by decide) ?_
      refine lv_istore_n (lv' := [(3, .int (0 : Int32)), (0, .ref (a 0)), (1, .int p1), (2, .int p2)]) hx hb dX4_whatIs_31 rfl hl (by decide) rfl (fun ls hl => ?_)
      refine lv_iconst (v := 0) hx hb dX4_whatIs_32 (by decide) ?_
      refine lv_istore (lv' := [(4, .int (0 : Int32)), (3, .int (0 : Int32)), (0, .ref (a 0)), (1, .int p1), (2, .int p2)]) hx hb dX4_whatIs_33 hl (by decide) rfl (fun ls hl => ?_)
      exact L35 FU _ _ _ _ _ _ h  _ _ _ hP hD hS (lv_sub hl [2, 3, 4, 1, 0] rfl)
    · replace h := fx_ite_t c20 h
      refine lv_aload_n hx hb dX4_whatIs_23 rfl (lv_at hl 0 rfl) ?_
      refine lv_bipush (v := (-2)) hx hb dX4_whatIs_24 (by decide) ?_
      obtain ⟨r26, u26_re, q26, h⟩ := bnd2_inv h
      refine kVI (n := 1) (As := [.int (-2 : Int32)]) (rest := []) CF hl hK hP hD hS hA (c_X4_no l D cI a ss mm im wa hi le ro re lm rm pl nu gi bg bm sd (-2 : Int32) r26 u26_re q26) gX4_whatIs_X4_no rfl dX4_whatIs_26 (by decide +kernel) ⟨⟨rfl, rfl⟩, ⟨Nat.le_of_ble_eq_true rfl, Nat.le_of_ble_eq_true rfl⟩, Nat.zero_le _, Nat.zero_le _⟩ (JN.whole (w1 := (cM a cI ss mm im wa hi le ro u26_re lm rm pl nu gi bg bm sd)) rfl) 0 rfl ⟨rfl, rfl⟩ rfl rfl (Nat.le_of_ble_eq_true rfl) (fun H locs hP hD hS => ?_)
      replace hP : va_P D vwCl (cM a cI ss mm im wa hi le ro u26_re lm rm pl nu gi bg bm sd) H := hP
      replace hD : va_D A (cM a cI ss mm im wa hi le ro u26_re lm rm pl nu gi bg bm sd) := hD
      obtain ⟨rfl, rfl, rfl⟩ := rtv3 h
      exact rI hQ hx hb hr hlocks hAe hP hS rfl rfl dX4_whatIs_29
  · replace h := fx_ite_t c5 h
    refine lv_aload_n hx hb dX4_whatIs_8 rfl (lv_at hl 0 rfl) ?_
    refine lv_iconst (v := (-1)) hx hb dX4_whatIs_9 (by decide) ?_
    obtain ⟨r10, u10_re, q10, h⟩ := bnd2_inv h
    refine kVI (n := 1) (As := [.int (-1 : Int32)]) (rest := []) CF hl hK hP hD hS hA (c_X4_no l D cI a ss mm im wa hi le ro re lm rm pl nu gi bg bm sd (-1 : Int32) r10 u10_re q10) gX4_whatIs_X4_no rfl dX4_whatIs_10 (by decide +kernel) ⟨⟨rfl, rfl⟩, ⟨Nat.le_of_ble_eq_true rfl, Nat.le_of_ble_eq_true rfl⟩, Nat.zero_le _, Nat.zero_le _⟩ (JN.whole (w1 := (cM a cI ss mm im wa hi le ro u10_re lm rm pl nu gi bg bm sd)) rfl) 0 rfl ⟨rfl, rfl⟩ rfl rfl (Nat.le_of_ble_eq_true rfl) (fun H locs hP hD hS => ?_)
    replace hP : va_P D vwCl (cM a cI ss mm im wa hi le ro u10_re lm rm pl nu gi bg bm sd) H := hP
    replace hD : va_D A (cM a cI ss mm im wa hi le ro u10_re lm rm pl nu gi bg bm sd) := hD
    obtain ⟨rfl, rfl, rfl⟩ := rtv3 h
    exact rI hQ hx hb hr hlocks hAe hP hS rfl rfl dX4_whatIs_13
/-! X4_row -/
set_option maxHeartbeats 4000000 in
set_option maxRecDepth 100000 in
theorem c_X4_row (l : Launch) (D : va_G) (cI : ClassId) (a : Nat → Nat) (ss : (Nat → Int32)) (mm : (Nat → Int32)) (im : (Nat → Int32)) (wa : (Nat → Int32)) (hi : Int32) (le : (Nat → Int32)) (ro : (Nat → Int32)) (re : (Nat → Int32)) (lm : Int32) (rm : Int32) (pl : Int32) (nu : (Nat → Int32)) (gi : (Nat → Int32)) (bg : (Nat → Int32)) (bm : Int32) (sd : Int32) (p1 : Int32) (res : Int32) (u_ro : (Nat → Int32)) (u_re : (Nat → Int32)) (u_rm : Int32) (h : M_X4_row ro re rm p1 = some (res, u_ro, u_re, u_rm)) : mI l yX4_row wsX4_row { frames := 1, cells := 0, slots := 0, locals := 21 } D cI [.ref (a 0), .int p1] (cM a cI ss mm im wa hi le ro re lm rm pl nu gi bg bm sd) (cM a cI ss mm im wa hi le u_ro u_re lm u_rm pl nu gi bg bm sd) res := by
  intro sz
  refine mStart (cc := cX4_row) (maxL := 3) (ret := (some .int)) (own := RX4) (by decide) rfl rfl (Nat.le_of_ble_eq_true rfl) (lv := [(0, .ref (a 0)), (1, .int p1)]) rfl ?_
  intro p e s m args below meth c A ls Q H locs CF hr hlocks hK hP hD hS hA hAe hl hQ
  obtain ⟨hx, hb, hml, hown, hts⟩ := id CF
  have f25 := hts (.fieldLink RX4 25 "MendAnothersBreakingModel" "row" "[I") (List.mem_of_getElem? (i := 2) rfl)
  have f227 := hts (.fieldLink RX4 227 "MendAnothersBreakingModel" "rowMany" "I") (List.mem_of_getElem? (i := 1) rfl)
  have i4 : ∀ w ∈ wsX40, w ∈ wsX4_row := fun w h => List.mem_cons_of_mem _ (List.mem_append_right _ h)
  unfold M_X4_row at h
  refine lv_iload_n hx hb dX4_row_0 rfl (lv_at hl 1 rfl) ?_
  refine lv_bipush (v := 99) hx hb dX4_row_1 (by decide) ?_
  obtain ⟨r3, q3, h⟩ := bnd1_inv h
  refine kSI (n := 2) (As := [.int p1, .int (99 : Int32)]) (rest := []) CF hl hK hP hD hS hA (c_X4_wrongBy l D cI   p1 (99 : Int32) r3 q3) gX4_row_X4_wrongBy rfl dX4_row_3 (by decide +kernel) ⟨⟨rfl, rfl⟩, ⟨Nat.le_of_ble_eq_true rfl, Nat.le_of_ble_eq_true rfl⟩, Nat.zero_le _, Nat.zero_le _⟩ (JN.ro [] rfl rfl) rfl rfl (Nat.le_of_ble_eq_true rfl) (fun H locs hP hD hS => ?_)
  refine lv_istore_n (lv' := [(2, .int r3), (0, .ref (a 0)), (1, .int p1)]) hx hb dX4_row_6 rfl hl (by decide) rfl (fun ls hl => ?_)
  refine lv_iload_n hx hb dX4_row_7 rfl (lv_at hl 0 rfl) ?_
  refine lv_if_ne (tgt := 23) hx hb dX4_row_8 (by decide) (fun c8 => ?_) (fun c8 => ?_)
  · replace h := fx_ite_f c8 h
    refine lv_iload_n hx hb dX4_row_23 rfl (lv_at hl 0 rfl) ?_
    refine lv_if_eq (tgt := 33) hx hb dX4_row_24 (by decide) (fun c24 => ?_) (fun c24 => ?_)
    · replace h := fx_ite_t c24 h
      refine lv_aload_n hx hb dX4_row_33 rfl (lv_at hl 1 rfl) ?_
      refine va_get (D := D) (ci := 4) (v := .ref (a 6)) (C := RX4) (T := TX4) (N := 16) hx hb hts i4 hown hK hP 0 rfl rfl 6 (by decide) f25 (fun _ h9 => h9) rfl dX4_row_34 ?_
      refine lv_aload_n hx hb dX4_row_37 rfl (lv_at hl 1 rfl) ?_
      refine va_get (D := D) (ci := 4) (v := .int rm) (C := RX4) (T := TX4) (N := 16) hx hb hts i4 hown hK hP 0 rfl rfl 9 (by decide) f227 (fun _ h9 => h9) rfl dX4_row_38 ?_
      refine lv_iload_n hx hb dX4_row_41 rfl (lv_at hl 2 rfl) ?_
      obtain ⟨g42, h⟩ := chk_inv h
      refine va_iast (n := 16) (f := ro) hx hb hK hP hD hS 6 0 rfl rfl g42 dX4_row_42 (fun H locs hP hD hS => ?_)
      replace hP : va_P D vwCl (cM a cI ss mm im wa hi le (upd ro (Int32.toNatClampNeg rm) p1) re lm rm pl nu gi bg bm sd) H := hP
      replace hD : va_D A (cM a cI ss mm im wa hi le (upd ro (Int32.toNatClampNeg rm) p1) re lm rm pl nu gi bg bm sd) := hD
      refine lv_aload_n hx hb dX4_row_43 rfl (lv_at hl 1 rfl) ?_
      refine lv_dup hx hb dX4_row_44 rfl ?_
      refine va_get (D := D) (ci := 4) (v := .int rm) (C := RX4) (T := TX4) (N := 16) hx hb hts i4 hown hK hP 0 rfl rfl 9 (by decide) f227 (fun _ h9 => h9) rfl dX4_row_45 ?_
      refine lv_iconst (v := 1) hx hb dX4_row_48 (by decide) ?_
      refine lv_iadd hx hb dX4_row_49 ?_
      refine va_put (D := D) (ci := 4) (v := .int (rm + (1 : Int32))) (ty := .int) (C := RX4) (T := TX4) (N := 16) hx hb hts i4 tyX4 tyX4_ok nmX4 hown hK hP hD hS 0 rfl rfl 9 (by decide) f227 (fun _ h9 => h9) rfl (by decide +kernel) rfl rfl (Nat.le_of_ble_eq_true rfl) dX4_row_50 (fun H locs hP hD hS => ?_)
      replace hP : va_P D vwCl (cM a cI ss mm im wa hi le (upd ro (Int32.toNatClampNeg rm) p1) re lm (rm + (1 : Int32)) pl nu gi bg bm sd) H := hP
      replace hD : va_D A (cM a cI ss mm im wa hi le (upd ro (Int32.toNatClampNeg rm) p1) re lm (rm + (1 : Int32)) pl nu gi bg bm sd) := hD
      refine lv_aload_n hx hb dX4_row_53 rfl (lv_at hl 1 rfl) ?_
      refine va_get (D := D) (ci := 4) (v := .int (rm + (1 : Int32))) (C := RX4) (T := TX4) (N := 16) hx hb hts i4 hown hK hP 0 rfl rfl 9 (by decide) f227 (fun _ h9 => h9) rfl dX4_row_54 ?_
      obtain ⟨rfl, rfl, rfl, rfl⟩ := rtv4 h
      exact rI hQ hx hb hr hlocks hAe hP hS rfl rfl dX4_row_57
    · replace h := fx_ite_f c24 h
      refine lv_aload_n hx hb dX4_row_27 rfl (lv_at hl 1 rfl) ?_
      refine lv_iload_n hx hb dX4_row_28 rfl (lv_at hl 0 rfl) ?_
      obtain ⟨r29, u29_re, q29, h⟩ := bnd2_inv h
      refine kVI (n := 1) (As := [.int r3]) (rest := []) CF hl hK hP hD hS hA (c_X4_no l D cI a ss mm im wa hi le ro re lm rm pl nu gi bg bm sd r3 r29 u29_re q29) gX4_row_X4_no rfl dX4_row_29 (by decide +kernel) ⟨⟨rfl, rfl⟩, ⟨Nat.le_of_ble_eq_true rfl, Nat.le_of_ble_eq_true rfl⟩, Nat.zero_le _, Nat.zero_le _⟩ (JN.whole (w1 := (cM a cI ss mm im wa hi le ro u29_re lm rm pl nu gi bg bm sd)) rfl) 0 rfl ⟨rfl, rfl⟩ rfl rfl (Nat.le_of_ble_eq_true rfl) (fun H locs hP hD hS => ?_)
      replace hP : va_P D vwCl (cM a cI ss mm im wa hi le ro u29_re lm rm pl nu gi bg bm sd) H := hP
      replace hD : va_D A (cM a cI ss mm im wa hi le ro u29_re lm rm pl nu gi bg bm sd) := hD
      obtain ⟨rfl, rfl, rfl, rfl⟩ := rtv4 h
      exact rI hQ hx hb hr hlocks hAe hP hS rfl rfl dX4_row_32
  · replace h := fx_ite_t c8 h
    refine lv_aload_n hx hb dX4_row_11 rfl (lv_at hl 1 rfl) ?_
    refine va_get (D := D) (ci := 4) (v := .int rm) (C := RX4) (T := TX4) (N := 16) hx hb hts i4 hown hK hP 0 rfl rfl 9 (by decide) f227 (fun _ h9 => h9) rfl dX4_row_12 ?_
    refine lv_bipush (v := 16) hx hb dX4_row_15 (by decide) ?_
    refine lv_icmp_ne (tgt := 23) hx hb dX4_row_17 (by decide) (fun c17 => ?_) (fun c17 => ?_)
    · replace h := fx_ite_f c17 h
      refine lv_iload_n hx hb dX4_row_23 rfl (lv_at hl 0 rfl) ?_
      refine lv_if_eq (tgt := 33) hx hb dX4_row_24 (by decide) (fun c24 => ?_) (fun c24 => ?_)
      · replace h := fx_ite_t c24 h
        refine lv_aload_n hx hb dX4_row_33 rfl (lv_at hl 1 rfl) ?_
        refine va_get (D := D) (ci := 4) (v := .ref (a 6)) (C := RX4) (T := TX4) (N := 16) hx hb hts i4 hown hK hP 0 rfl rfl 6 (by decide) f25 (fun _ h9 => h9) rfl dX4_row_34 ?_
        refine lv_aload_n hx hb dX4_row_37 rfl (lv_at hl 1 rfl) ?_
        refine va_get (D := D) (ci := 4) (v := .int rm) (C := RX4) (T := TX4) (N := 16) hx hb hts i4 hown hK hP 0 rfl rfl 9 (by decide) f227 (fun _ h9 => h9) rfl dX4_row_38 ?_
        refine lv_iload_n hx hb dX4_row_41 rfl (lv_at hl 2 rfl) ?_
        obtain ⟨g42, h⟩ := chk_inv h
        refine va_iast (n := 16) (f := ro) hx hb hK hP hD hS 6 0 rfl rfl g42 dX4_row_42 (fun H locs hP hD hS => ?_)
        replace hP : va_P D vwCl (cM a cI ss mm im wa hi le (upd ro (Int32.toNatClampNeg rm) p1) re lm rm pl nu gi bg bm sd) H := hP
        replace hD : va_D A (cM a cI ss mm im wa hi le (upd ro (Int32.toNatClampNeg rm) p1) re lm rm pl nu gi bg bm sd) := hD
        refine lv_aload_n hx hb dX4_row_43 rfl (lv_at hl 1 rfl) ?_
        refine lv_dup hx hb dX4_row_44 rfl ?_
        refine va_get (D := D) (ci := 4) (v := .int rm) (C := RX4) (T := TX4) (N := 16) hx hb hts i4 hown hK hP 0 rfl rfl 9 (by decide) f227 (fun _ h9 => h9) rfl dX4_row_45 ?_
        refine lv_iconst (v := 1) hx hb dX4_row_48 (by decide) ?_
        refine lv_iadd hx hb dX4_row_49 ?_
        refine va_put (D := D) (ci := 4) (v := .int (rm + (1 : Int32))) (ty := .int) (C := RX4) (T := TX4) (N := 16) hx hb hts i4 tyX4 tyX4_ok nmX4 hown hK hP hD hS 0 rfl rfl 9 (by decide) f227 (fun _ h9 => h9) rfl (by decide +kernel) rfl rfl (Nat.le_of_ble_eq_true rfl) dX4_row_50 (fun H locs hP hD hS => ?_)
        replace hP : va_P D vwCl (cM a cI ss mm im wa hi le (upd ro (Int32.toNatClampNeg rm) p1) re lm (rm + (1 : Int32)) pl nu gi bg bm sd) H := hP
        replace hD : va_D A (cM a cI ss mm im wa hi le (upd ro (Int32.toNatClampNeg rm) p1) re lm (rm + (1 : Int32)) pl nu gi bg bm sd) := hD
        refine lv_aload_n hx hb dX4_row_53 rfl (lv_at hl 1 rfl) ?_
        refine va_get (D := D) (ci := 4) (v := .int (rm + (1 : Int32))) (C := RX4) (T := TX4) (N := 16) hx hb hts i4 hown hK hP 0 rfl rfl 9 (by decide) f227 (fun _ h9 => h9) rfl dX4_row_54 ?_
        obtain ⟨rfl, rfl, rfl, rfl⟩ := rtv4 h
        exact rI hQ hx hb hr hlocks hAe hP hS rfl rfl dX4_row_57
      · replace h := fx_ite_f c24 h
        refine lv_aload_n hx hb dX4_row_27 rfl (lv_at hl 1 rfl) ?_
        refine lv_iload_n hx hb dX4_row_28 rfl (lv_at hl 0 rfl) ?_
        obtain ⟨r29, u29_re, q29, h⟩ := bnd2_inv h
        refine kVI (n := 1) (As := [.int r3]) (rest := []) CF hl hK hP hD hS hA (c_X4_no l D cI a ss mm im wa hi le ro re lm rm pl nu gi bg bm sd r3 r29 u29_re q29) gX4_row_X4_no rfl dX4_row_29 (by decide +kernel) ⟨⟨rfl, rfl⟩, ⟨Nat.le_of_ble_eq_true rfl, Nat.le_of_ble_eq_true rfl⟩, Nat.zero_le _, Nat.zero_le _⟩ (JN.whole (w1 := (cM a cI ss mm im wa hi le ro u29_re lm rm pl nu gi bg bm sd)) rfl) 0 rfl ⟨rfl, rfl⟩ rfl rfl (Nat.le_of_ble_eq_true rfl) (fun H locs hP hD hS => ?_)
        replace hP : va_P D vwCl (cM a cI ss mm im wa hi le ro u29_re lm rm pl nu gi bg bm sd) H := hP
        replace hD : va_D A (cM a cI ss mm im wa hi le ro u29_re lm rm pl nu gi bg bm sd) := hD
        obtain ⟨rfl, rfl, rfl, rfl⟩ := rtv4 h
        exact rI hQ hx hb hr hlocks hAe hP hS rfl rfl dX4_row_32
    · replace h := fx_ite_t c17 h
      refine lv_bipush (v := (-6)) hx hb dX4_row_20 (by decide) ?_
      refine lv_istore_n (lv' := [(2, .int (-6 : Int32)), (0, .ref (a 0)), (1, .int p1)]) hx hb dX4_row_22 rfl hl (by decide) rfl (fun ls hl => ?_)
      refine lv_iload_n hx hb dX4_row_23 rfl (lv_at hl 0 rfl) ?_
      refine lv_if_eq (tgt := 33) hx hb dX4_row_24 (by decide) (fun c9 => absurd c9 (by decide)) (fun _ => ?_)
      refine lv_aload_n hx hb dX4_row_27 rfl (lv_at hl 1 rfl) ?_
      refine lv_iload_n hx hb dX4_row_28 rfl (lv_at hl 0 rfl) ?_
      obtain ⟨r29, u29_re, q29, h⟩ := bnd2_inv h
      refine kVI (n := 1) (As := [.int (-6 : Int32)]) (rest := []) CF hl hK hP hD hS hA (c_X4_no l D cI a ss mm im wa hi le ro re lm rm pl nu gi bg bm sd (-6 : Int32) r29 u29_re q29) gX4_row_X4_no rfl dX4_row_29 (by decide +kernel) ⟨⟨rfl, rfl⟩, ⟨Nat.le_of_ble_eq_true rfl, Nat.le_of_ble_eq_true rfl⟩, Nat.zero_le _, Nat.zero_le _⟩ (JN.whole (w1 := (cM a cI ss mm im wa hi le ro u29_re lm rm pl nu gi bg bm sd)) rfl) 0 rfl ⟨rfl, rfl⟩ rfl rfl (Nat.le_of_ble_eq_true rfl) (fun H locs hP hD hS => ?_)
      replace hP : va_P D vwCl (cM a cI ss mm im wa hi le ro u29_re lm rm pl nu gi bg bm sd) H := hP
      replace hD : va_D A (cM a cI ss mm im wa hi le ro u29_re lm rm pl nu gi bg bm sd) := hD
      obtain ⟨rfl, rfl, rfl, rfl⟩ := rtv4 h
      exact rI hQ hx hb hr hlocks hAe hP hS rfl rfl dX4_row_32
/-! X4_judge -/
set_option maxHeartbeats 4000000 in
set_option maxRecDepth 100000 in
theorem c_X4_judge (l : Launch) (D : va_G) (cI : ClassId) (a : Nat → Nat) (ss : (Nat → Int32)) (mm : (Nat → Int32)) (im : (Nat → Int32)) (wa : (Nat → Int32)) (hi : Int32) (le : (Nat → Int32)) (ro : (Nat → Int32)) (re : (Nat → Int32)) (lm : Int32) (rm : Int32) (pl : Int32) (nu : (Nat → Int32)) (gi : (Nat → Int32)) (bg : (Nat → Int32)) (bm : Int32) (sd : Int32)  (res : Int32) (u_mm : (Nat → Int32)) (u_rm : Int32) (h : M_X4_judge ss mm ro rm = some (res, u_mm, u_rm)) : mI l yX4_judge wsX4_judge { frames := 6, cells := 0, slots := 0, locals := 132 } D cI [.ref (a 0)] (cM a cI ss mm im wa hi le ro re lm rm pl nu gi bg bm sd) (cM a cI ss u_mm im wa hi le ro re lm u_rm pl nu gi bg bm sd) res := by
  intro sz
  refine mStart (cc := cX4_judge) (maxL := 3) (ret := (some .int)) (own := RX4) (by decide) rfl rfl (Nat.le_of_ble_eq_true rfl) (lv := [(0, .ref (a 0))]) rfl ?_
  intro p e s m args below meth c A ls Q H locs CF hr hlocks hK hP hD hS hA hAe hl hQ
  obtain ⟨hx, hb, hml, hown, hts⟩ := id CF
  have f9 := hts (.fieldLink RX4 9 "MendAnothersBreakingModel" "s" "[I") (List.mem_of_getElem? (i := 2) rfl)
  have f13 := hts (.fieldLink RX4 13 "MendAnothersBreakingModel" "m" "[I") (List.mem_of_getElem? (i := 3) rfl)
  have f25 := hts (.fieldLink RX4 25 "MendAnothersBreakingModel" "row" "[I") (List.mem_of_getElem? (i := 4) rfl)
  have f227 := hts (.fieldLink RX4 227 "MendAnothersBreakingModel" "rowMany" "I") (List.mem_of_getElem? (i := 1) rfl)
  have i4 : ∀ w ∈ wsX40, w ∈ wsX4_judge := fun w h => List.mem_cons_of_mem _ (List.mem_append_right _ h)
  have L23 : ∀ (n : Nat) (x1 : Int32) (rm : Int32) (x2 : Int32) (mm : (Nat → Int32)), fuel (fun _ _ => none) (B_X4_judge_23 x1 ss ro rm) n x2 mm = some (res, u_mm, u_rm) → 
      ∀ (H : Heap) (locs : List Loc) (ls : Array Slot), va_P D vwCl (cM a cI ss mm im wa hi le ro re lm rm pl nu gi bg bm sd) H → va_D A (cM a cI ss mm im wa hi le ro re lm rm pl nu gi bg bm sd) → va_S A s.heap H locs → lv_has ls 3 [(0, .ref (a 0)), (1, .int x1), (2, .int x2)] → W p l e { frames := 6, cells := 0, slots := 0, locals := 132 } s m args below meth c H locs 0 0 Q (F0 m 23 ls []) := by
    intro n
    induction n with
    | zero =>
      intro x1 rm x2 mm h
      exact nomatch (show (none : Option (Int32 × (Nat → Int32) × Int32)) = some (res, u_mm, u_rm) from h)
    | succ n ih =>
      intro x1 rm x2 mm h  H locs ls hP hD hS hl
      replace h : B_X4_judge_23 x1 ss ro rm (fuel (fun _ _ => none) (B_X4_judge_23 x1 ss ro rm) n) x2 mm = some (res, u_mm, u_rm) := h
      unfold B_X4_judge_23 at h
      refine lv_iload_n hx hb dX4_judge_23 rfl (lv_at hl 2 rfl) ?_
      refine lv_iload_n hx hb dX4_judge_24 rfl (lv_at hl 1 rfl) ?_
      refine lv_icmp_ge (tgt := 63) hx hb dX4_judge_25 (by decide) (fun c25 => ?_) (fun c25 => ?_)
      · replace h := fx_ite_t c25 h
        refine lv_bipush (v := (-9)) hx hb dX4_judge_63 (by decide) ?_
        obtain ⟨rfl, rfl, rfl⟩ := rtv3 h
        exact rI hQ hx hb hr hlocks hAe hP hS rfl rfl dX4_judge_65
      · replace h := fx_ite_f c25 h
        refine lv_aload_n hx hb dX4_judge_28 rfl (lv_at hl 0 rfl) ?_
        refine va_get (D := D) (ci := 4) (v := .ref (a 2)) (C := RX4) (T := TX4) (N := 16) hx hb hts i4 hown hK hP 0 rfl rfl 1 (by decide) f13 (fun _ h9 => h9) rfl dX4_judge_29 ?_
        obtain ⟨r32, q32, h⟩ := bnd1_inv h
        refine kSI (n := 1) (As := [.ref (a 2)]) (rest := []) CF hl hK hP hD hS hA (c_X4_wholeSet l D cI (a 2) mm  r32 q32) gX4_judge_X4_wholeSet rfl dX4_judge_32 (by decide +kernel) ⟨⟨rfl, rfl⟩, ⟨Nat.le_of_ble_eq_true rfl, Nat.le_of_ble_eq_true rfl⟩, Nat.zero_le _, Nat.zero_le _⟩ (JN.ro [2] rfl rfl) rfl rfl (Nat.le_of_ble_eq_true rfl) (fun H locs hP hD hS => ?_)
        obtain ⟨r35, q35, h⟩ := bnd1_inv h
        refine kSI (n := 1) (As := [.int r32]) (rest := []) CF hl hK hP hD hS hA (c_X4_bits l D cI   r32 r35 q35) gX4_judge_X4_bits rfl dX4_judge_35 (by decide +kernel) ⟨⟨rfl, rfl⟩, ⟨Nat.le_of_ble_eq_true rfl, Nat.le_of_ble_eq_true rfl⟩, Nat.zero_le _, Nat.zero_le _⟩ (JN.ro [] rfl rfl) rfl rfl (Nat.le_of_ble_eq_true rfl) (fun H locs hP hD hS => ?_)
        refine lv_aload_n hx hb dX4_judge_38 rfl (lv_at hl 0 rfl) ?_
        refine va_get (D := D) (ci := 4) (v := .ref (a 6)) (C := RX4) (T := TX4) (N := 16) hx hb hts i4 hown hK hP 0 rfl rfl 6 (by decide) f25 (fun _ h9 => h9) rfl dX4_judge_39 ?_
        refine lv_iload_n hx hb dX4_judge_42 rfl (lv_at hl 2 rfl) ?_
        obtain ⟨g43, h⟩ := chk_inv h
        refine va_iald (n := 16) (f := ro) hx hb hK hP 6 0 rfl rfl g43 dX4_judge_43 ?_
        refine lv_icmp_eq (tgt := 49) hx hb dX4_judge_44 (by decide) (fun c44 => ?_) (fun c44 => ?_)
        · replace h := fx_ite_t c44 h
          refine lv_aload_n hx hb dX4_judge_49 rfl (lv_at hl 0 rfl) ?_
          refine va_get (D := D) (ci := 4) (v := .ref (a 2)) (C := RX4) (T := TX4) (N := 16) hx hb hts i4 hown hK hP 0 rfl rfl 1 (by decide) f13 (fun _ h9 => h9) rfl dX4_judge_50 ?_
          refine lv_iconst (v := 1) hx hb dX4_judge_53 (by decide) ?_
          obtain ⟨u54_mm, q54, h⟩ := bnd1_inv h
          refine kSV (n := 2) (As := [.ref (a 2), .int (1 : Int32)]) (rest := []) CF hl hK hP hD hS hA (c_X4_day l D cI (a 2) mm (1 : Int32) u54_mm q54) gX4_judge_X4_day rfl dX4_judge_54 (by decide +kernel) ⟨⟨rfl, rfl⟩, ⟨Nat.le_of_ble_eq_true rfl, Nat.le_of_ble_eq_true rfl⟩, Nat.zero_le _, Nat.zero_le _⟩ (JN.sub (wst' := (cM a cI ss u54_mm im wa hi le ro re lm rm pl nu gi bg bm sd)) [2] rfl rfl rfl rfl) rfl rfl (Nat.le_of_ble_eq_true rfl) (fun H locs hP hD hS => ?_)
          replace hP : va_P D vwCl (cM a cI ss u54_mm im wa hi le ro re lm rm pl nu gi bg bm sd) H := hP
          replace hD : va_D A (cM a cI ss u54_mm im wa hi le ro re lm rm pl nu gi bg bm sd) := hD
          refine lv_iinc (v := (x2 + 1)) (lv' := [(2, .int (x2 + 1)), (0, .ref (a 0)), (1, .int x1)]) hx hb dX4_judge_57 hl (k := 2) rfl (by first | rfl | decide) (by decide) rfl (fun ls hl => ?_)
          refine lv_goto (tgt := 23) hx hb dX4_judge_60 (by decide) ?_
          exact ih _ _ _ _ h  _ _ _ hP hD hS (lv_sub hl [1, 2, 0] rfl)
        · replace h := fx_ite_f c44 h
          refine lv_iload_n hx hb dX4_judge_47 rfl (lv_at hl 2 rfl) ?_
          obtain ⟨rfl, rfl, rfl⟩ := rtv3 h
          exact rI hQ hx hb hr hlocks hAe hP hS rfl rfl dX4_judge_48
  unfold M_X4_judge at h
  refine lv_aload_n hx hb dX4_judge_0 rfl (lv_at hl 0 rfl) ?_
  refine va_get (D := D) (ci := 4) (v := .int rm) (C := RX4) (T := TX4) (N := 16) hx hb hts i4 hown hK hP 0 rfl rfl 9 (by decide) f227 (fun _ h9 => h9) rfl dX4_judge_1 ?_
  refine lv_istore_n (lv' := [(1, .int rm), (0, .ref (a 0))]) hx hb dX4_judge_4 rfl hl (by decide) rfl (fun ls hl => ?_)
  refine lv_aload_n hx hb dX4_judge_5 rfl (lv_at hl 1 rfl) ?_
  refine lv_iconst (v := 0) hx hb dX4_judge_6 (by decide) ?_
  refine va_put (D := D) (ci := 4) (v := .int (0 : Int32)) (ty := .int) (C := RX4) (T := TX4) (N := 16) hx hb hts i4 tyX4 tyX4_ok nmX4 hown hK hP hD hS 0 rfl rfl 9 (by decide) f227 (fun _ h9 => h9) rfl (by decide +kernel) rfl rfl (Nat.le_of_ble_eq_true rfl) dX4_judge_7 (fun H locs hP hD hS => ?_)
  replace hP : va_P D vwCl (cM a cI ss mm im wa hi le ro re lm (0 : Int32) pl nu gi bg bm sd) H := hP
  replace hD : va_D A (cM a cI ss mm im wa hi le ro re lm (0 : Int32) pl nu gi bg bm sd) := hD
  refine lv_aload_n hx hb dX4_judge_10 rfl (lv_at hl 1 rfl) ?_
  refine va_get (D := D) (ci := 4) (v := .ref (a 1)) (C := RX4) (T := TX4) (N := 16) hx hb hts i4 hown hK hP 0 rfl rfl 0 (by decide) f9 (fun _ h9 => h9) rfl dX4_judge_11 ?_
  refine lv_aload_n hx hb dX4_judge_14 rfl (lv_at hl 1 rfl) ?_
  refine va_get (D := D) (ci := 4) (v := .ref (a 2)) (C := RX4) (T := TX4) (N := 16) hx hb hts i4 hown hK hP 0 rfl rfl 1 (by decide) f13 (fun _ h9 => h9) rfl dX4_judge_15 ?_
  obtain ⟨u18_mm, q18, h⟩ := bnd1_inv h
  refine kSV (n := 2) (As := [.ref (a 1), .ref (a 2)]) (rest := []) CF hl hK hP hD hS hA (c_X4_copies l D cI (a 1) (a 2) ss mm  u18_mm q18) gX4_judge_X4_copies rfl dX4_judge_18 (by decide +kernel) ⟨⟨rfl, rfl⟩, ⟨Nat.le_of_ble_eq_true rfl, Nat.le_of_ble_eq_true rfl⟩, Nat.zero_le _, Nat.zero_le _⟩ (JN.sub (wst' := (cM a cI ss u18_mm im wa hi le ro re lm (0 : Int32) pl nu gi bg bm sd)) [1, 2] rfl rfl rfl rfl) rfl rfl (Nat.le_of_ble_eq_true rfl) (fun H locs hP hD hS => ?_)
  replace hP : va_P D vwCl (cM a cI ss u18_mm im wa hi le ro re lm (0 : Int32) pl nu gi bg bm sd) H := hP
  replace hD : va_D A (cM a cI ss u18_mm im wa hi le ro re lm (0 : Int32) pl nu gi bg bm sd) := hD
  refine lv_iconst (v := 0) hx hb dX4_judge_21 (by decide) ?_
  refine lv_istore_n (lv' := [(2, .int (0 : Int32)), (1, .int rm), (0, .ref (a 0))]) hx hb dX4_judge_22 rfl hl (by decide) rfl (fun ls hl => ?_)
  exact L23 FU _ _ _ _ h  _ _ _ hP hD hS (lv_sub hl [2, 1, 0] rfl)
/-! X4_clear -/
set_option maxHeartbeats 4000000 in
set_option maxRecDepth 100000 in
theorem c_X4_clear (l : Launch) (D : va_G) (cI : ClassId) (a : Nat → Nat) (ss : (Nat → Int32)) (mm : (Nat → Int32)) (im : (Nat → Int32)) (wa : (Nat → Int32)) (hi : Int32) (le : (Nat → Int32)) (ro : (Nat → Int32)) (re : (Nat → Int32)) (lm : Int32) (rm : Int32) (pl : Int32) (nu : (Nat → Int32)) (gi : (Nat → Int32)) (bg : (Nat → Int32)) (bm : Int32) (sd : Int32)  (res : Int32) (u_rm : Int32) (h : M_X4_clear rm = some (res, u_rm)) : mI l yX4_clear wsX4_clear { frames := 0, cells := 0, slots := 0, locals := 0 } D cI [.ref (a 0)] (cM a cI ss mm im wa hi le ro re lm rm pl nu gi bg bm sd) (cM a cI ss mm im wa hi le ro re lm u_rm pl nu gi bg bm sd) res := by
  intro sz
  refine mStart (cc := cX4_clear) (maxL := 2) (ret := (some .int)) (own := RX4) (by decide) rfl rfl (Nat.le_of_ble_eq_true rfl) (lv := [(0, .ref (a 0))]) rfl ?_
  intro p e s m args below meth c A ls Q H locs CF hr hlocks hK hP hD hS hA hAe hl hQ
  obtain ⟨hx, hb, hml, hown, hts⟩ := id CF
  have f227 := hts (.fieldLink RX4 227 "MendAnothersBreakingModel" "rowMany" "I") (List.mem_of_getElem? (i := 1) rfl)
  have i4 : ∀ w ∈ wsX40, w ∈ wsX4_clear := fun w h => List.mem_cons_of_mem _ (List.mem_append_right _ h)
  unfold M_X4_clear at h
  refine lv_aload_n hx hb dX4_clear_0 rfl (lv_at hl 0 rfl) ?_
  refine va_get (D := D) (ci := 4) (v := .int rm) (C := RX4) (T := TX4) (N := 16) hx hb hts i4 hown hK hP 0 rfl rfl 9 (by decide) f227 (fun _ h9 => h9) rfl dX4_clear_1 ?_
  refine lv_istore_n (lv' := [(1, .int rm), (0, .ref (a 0))]) hx hb dX4_clear_4 rfl hl (by decide) rfl (fun ls hl => ?_)
  refine lv_aload_n hx hb dX4_clear_5 rfl (lv_at hl 1 rfl) ?_
  refine lv_iconst (v := 0) hx hb dX4_clear_6 (by decide) ?_
  refine va_put (D := D) (ci := 4) (v := .int (0 : Int32)) (ty := .int) (C := RX4) (T := TX4) (N := 16) hx hb hts i4 tyX4 tyX4_ok nmX4 hown hK hP hD hS 0 rfl rfl 9 (by decide) f227 (fun _ h9 => h9) rfl (by decide +kernel) rfl rfl (Nat.le_of_ble_eq_true rfl) dX4_clear_7 (fun H locs hP hD hS => ?_)
  replace hP : va_P D vwCl (cM a cI ss mm im wa hi le ro re lm (0 : Int32) pl nu gi bg bm sd) H := hP
  replace hD : va_D A (cM a cI ss mm im wa hi le ro re lm (0 : Int32) pl nu gi bg bm sd) := hD
  refine lv_iload_n hx hb dX4_clear_10 rfl (lv_at hl 0 rfl) ?_
  obtain ⟨rfl, rfl⟩ := rtv2 h
  exact rI hQ hx hb hr hlocks hAe hP hS rfl rfl dX4_clear_11
/-! X4_drawn -/
set_option maxHeartbeats 4000000 in
set_option maxRecDepth 100000 in
theorem c_X4_drawn (l : Launch) (D : va_G) (cI : ClassId) (a : Nat → Nat) (ss : (Nat → Int32)) (mm : (Nat → Int32)) (im : (Nat → Int32)) (wa : (Nat → Int32)) (hi : Int32) (le : (Nat → Int32)) (ro : (Nat → Int32)) (re : (Nat → Int32)) (lm : Int32) (rm : Int32) (pl : Int32) (nu : (Nat → Int32)) (gi : (Nat → Int32)) (bg : (Nat → Int32)) (bm : Int32) (sd : Int32) (p1 : Int32) (res : Int32) (u_sd : Int32) (h : M_X4_drawn sd p1 = some (res, u_sd)) : mI l yX4_drawn wsX4_drawn { frames := 0, cells := 0, slots := 0, locals := 0 } D cI [.ref (a 0), .int p1] (cM a cI ss mm im wa hi le ro re lm rm pl nu gi bg bm sd) (cM a cI ss mm im wa hi le ro re lm rm pl nu gi bg bm u_sd) res := by
  intro sz
  refine mStart (cc := cX4_drawn) (maxL := 2) (ret := (some .int)) (own := RX4) (by decide) rfl rfl (Nat.le_of_ble_eq_true rfl) (lv := [(0, .ref (a 0)), (1, .int p1)]) rfl ?_
  intro p e s m args below meth c A ls Q H locs CF hr hlocks hK hP hD hS hA hAe hl hQ
  obtain ⟨hx, hb, hml, hown, hts⟩ := id CF
  have f230 := hts (.fieldLink RX4 230 "MendAnothersBreakingModel" "seed" "I") (List.mem_of_getElem? (i := 1) rfl)
  have k233 := hts (.constant RX4 233 (1664525)) (List.mem_of_getElem? (i := 2) rfl)
  have k234 := hts (.constant RX4 234 (1013904223)) (List.mem_of_getElem? (i := 3) rfl)
  have k235 := hts (.constant RX4 235 (2147483647)) (List.mem_of_getElem? (i := 4) rfl)
  have i4 : ∀ w ∈ wsX40, w ∈ wsX4_drawn := fun w h => List.mem_cons_of_mem _ (List.mem_append_right _ h)
  unfold M_X4_drawn at h
  refine lv_aload_n hx hb dX4_drawn_0 rfl (lv_at hl 0 rfl) ?_
  refine lv_aload_n hx hb dX4_drawn_1 rfl (lv_at hl 0 rfl) ?_
  refine va_get (D := D) (ci := 4) (v := .int sd) (C := RX4) (T := TX4) (N := 16) hx hb hts i4 hown hK hP 0 rfl rfl 15 (by decide) f230 (fun _ h9 => h9) rfl dX4_drawn_2 ?_
  refine lv_ldc (v := 1664525) hx hb hown k233 dX4_drawn_5 ?_
  refine lv_imul hx hb dX4_drawn_7 ?_
  refine lv_ldc (v := 1013904223) hx hb hown k234 dX4_drawn_8 ?_
  refine lv_iadd hx hb dX4_drawn_10 ?_
  refine va_put (D := D) (ci := 4) (v := .int ((sd * (1664525 : Int32)) + (1013904223 : Int32))) (ty := .int) (C := RX4) (T := TX4) (N := 16) hx hb hts i4 tyX4 tyX4_ok nmX4 hown hK hP hD hS 0 rfl rfl 15 (by decide) f230 (fun _ h9 => h9) rfl (by decide +kernel) rfl rfl (Nat.le_of_ble_eq_true rfl) dX4_drawn_11 (fun H locs hP hD hS => ?_)
  replace hP : va_P D vwCl (cM a cI ss mm im wa hi le ro re lm rm pl nu gi bg bm ((sd * (1664525 : Int32)) + (1013904223 : Int32))) H := hP
  replace hD : va_D A (cM a cI ss mm im wa hi le ro re lm rm pl nu gi bg bm ((sd * (1664525 : Int32)) + (1013904223 : Int32))) := hD
  refine lv_aload_n hx hb dX4_drawn_14 rfl (lv_at hl 0 rfl) ?_
  refine va_get (D := D) (ci := 4) (v := .int ((sd * (1664525 : Int32)) + (1013904223 : Int32))) (C := RX4) (T := TX4) (N := 16) hx hb hts i4 hown hK hP 0 rfl rfl 15 (by decide) f230 (fun _ h9 => h9) rfl dX4_drawn_15 ?_
  refine lv_ldc (v := 2147483647) hx hb hown k235 dX4_drawn_18 ?_
  refine lv_iand hx hb dX4_drawn_20 ?_
  refine lv_sipush (v := 256) hx hb dX4_drawn_21 (by decide) ?_
  refine lv_idiv hx hb dX4_drawn_24 (by decide) ?_
  refine lv_iload_n hx hb dX4_drawn_25 rfl (lv_at hl 1 rfl) ?_
  obtain ⟨e26, h⟩ := dchI_inv h
  refine lv_irem hx hb dX4_drawn_26 e26 ?_
  obtain ⟨rfl, rfl⟩ := rtv2 h
  exact rI hQ hx hb hr hlocks hAe hP hS rfl rfl dX4_drawn_27
/-! X4_lots -/
set_option maxHeartbeats 4000000 in
set_option maxRecDepth 100000 in
theorem c_X4_lots (l : Launch) (D : va_G) (cI : ClassId) (a : Nat → Nat) (ss : (Nat → Int32)) (mm : (Nat → Int32)) (im : (Nat → Int32)) (wa : (Nat → Int32)) (hi : Int32) (le : (Nat → Int32)) (ro : (Nat → Int32)) (re : (Nat → Int32)) (lm : Int32) (rm : Int32) (pl : Int32) (nu : (Nat → Int32)) (gi : (Nat → Int32)) (bg : (Nat → Int32)) (bm : Int32) (sd : Int32) (p1 : Int32) (p2 : Int32) (p3 : Int32) (res : Int32) (u_mm : (Nat → Int32)) (u_re : (Nat → Int32)) (u_sd : Int32) (h : M_X4_lots ss mm re sd p1 p2 p3 = some (res, u_mm, u_re, u_sd)) : mI l yX4_lots wsX4_lots { frames := 8, cells := 0, slots := 0, locals := 175 } D cI [.ref (a 0), .int p1, .int p2, .int p3] (cM a cI ss mm im wa hi le ro re lm rm pl nu gi bg bm sd) (cM a cI ss u_mm im wa hi le ro u_re lm rm pl nu gi bg bm u_sd) res := by
  intro sz
  refine mStart (cc := cX4_lots) (maxL := 8) (ret := (some .int)) (own := RX4) (by decide) rfl rfl (Nat.le_of_ble_eq_true rfl) (lv := [(0, .ref (a 0)), (1, .int p1), (2, .int p2), (3, .int p3)]) rfl ?_
  intro p e s m args below meth c A ls Q H locs CF hr hlocks hK hP hD hS hA hAe hl hQ
  obtain ⟨hx, hb, hml, hown, hts⟩ := id CF
  have f9 := hts (.fieldLink RX4 9 "MendAnothersBreakingModel" "s" "[I") (List.mem_of_getElem? (i := 1) rfl)
  have f13 := hts (.fieldLink RX4 13 "MendAnothersBreakingModel" "m" "[I") (List.mem_of_getElem? (i := 3) rfl)
  have f230 := hts (.fieldLink RX4 230 "MendAnothersBreakingModel" "seed" "I") (List.mem_of_getElem? (i := 2) rfl)
  have i4 : ∀ w ∈ wsX40, w ∈ wsX4_lots := fun w h => List.mem_cons_of_mem _ (List.mem_append_right _ h)
  have L88 : ∀ (n : Nat) (x1 : Int32) (x3 : Int32) (x4 : Int32) (x5 : Int32) (re : (Nat → Int32)) (k164 : (Nat → Int32) → Int32 → Option (Int32 × (Nat → Int32) × (Nat → Int32) × Int32)) (x6 : Int32) (mm : (Nat → Int32)) (sd : Int32), fuel (fun _ _ _ => none) (B_X4_lots_88 x1 x3 x4 x5 ss re k164) n x6 mm sd = some (res, u_mm, u_re, u_sd) → 
      (∀ (mm : (Nat → Int32)) (sd : Int32), k164 mm sd = some (res, u_mm, u_re, u_sd) → ∀ (H : Heap) (locs : List Loc) (ls : Array Slot), va_P D vwCl (cM a cI ss mm im wa hi le ro re lm rm pl nu gi bg bm sd) H → va_D A (cM a cI ss mm im wa hi le ro re lm rm pl nu gi bg bm sd) → va_S A s.heap H locs → lv_has ls 8 [(0, .ref (a 0)), (1, .int x1), (3, .int x3), (4, .int x4), (5, .int x5)] → W p l e { frames := 8, cells := 0, slots := 0, locals := 175 } s m args below meth c H locs 0 0 Q (F0 m 164 ls [])) → 
      ∀ (H : Heap) (locs : List Loc) (ls : Array Slot), va_P D vwCl (cM a cI ss mm im wa hi le ro re lm rm pl nu gi bg bm sd) H → va_D A (cM a cI ss mm im wa hi le ro re lm rm pl nu gi bg bm sd) → va_S A s.heap H locs → lv_has ls 8 [(0, .ref (a 0)), (1, .int x1), (3, .int x3), (4, .int x4), (5, .int x5), (6, .int x6)] → W p l e { frames := 8, cells := 0, slots := 0, locals := 175 } s m args below meth c H locs 0 0 Q (F0 m 88 ls []) := by
    intro n
    induction n with
    | zero =>
      intro x1 x3 x4 x5 re k164 x6 mm sd h
      exact nomatch (show (none : Option (Int32 × (Nat → Int32) × (Nat → Int32) × Int32)) = some (res, u_mm, u_re, u_sd) from h)
    | succ n ih =>
      intro x1 x3 x4 x5 re k164 x6 mm sd h hk164 H locs ls hP hD hS hl
      replace h : B_X4_lots_88 x1 x3 x4 x5 ss re k164 (fuel (fun _ _ _ => none) (B_X4_lots_88 x1 x3 x4 x5 ss re k164) n) x6 mm sd = some (res, u_mm, u_re, u_sd) := h
      unfold B_X4_lots_88 at h
      refine lv_iload hx hb dX4_lots_88 (lv_at hl 5 rfl) ?_
      refine lv_aload_n hx hb dX4_lots_90 rfl (lv_at hl 0 rfl) ?_
      refine va_get (D := D) (ci := 4) (v := .ref (a 1)) (C := RX4) (T := TX4) (N := 16) hx hb hts i4 hown hK hP 0 rfl rfl 0 (by decide) f9 (fun _ h9 => h9) rfl dX4_lots_91 ?_
      refine lv_iconst (v := 1) hx hb dX4_lots_94 (by decide) ?_
      refine ald (n := 61) (f := ss) (k := 1) hx hb hK hP 1 0 rfl rfl (fx_lit rfl) rfl dX4_lots_95 ?_
      refine lv_icmp_ge (tgt := 164) hx hb dX4_lots_96 (by decide) (fun c96 => ?_) (fun c96 => ?_)
      · replace h := fx_ite_t c96 h
        exact hk164 _ _ h _ _ _ hP hD hS (lv_sub hl [0, 1, 2, 3, 4] rfl)
      · replace h := fx_ite_f c96 h
        refine lv_aload_n hx hb dX4_lots_99 rfl (lv_at hl 0 rfl) ?_
        refine va_get (D := D) (ci := 4) (v := .ref (a 1)) (C := RX4) (T := TX4) (N := 16) hx hb hts i4 hown hK hP 0 rfl rfl 0 (by decide) f9 (fun _ h9 => h9) rfl dX4_lots_100 ?_
        refine lv_iload hx hb dX4_lots_103 (lv_at hl 5 rfl) ?_
        obtain ⟨r105, q105, h⟩ := bnd1_inv h
        refine kSI (n := 2) (As := [.ref (a 1), .int x6]) (rest := []) CF hl hK hP hD hS hA (c_X4_isWhole l D cI (a 1) ss x6 r105 q105) gX4_lots_X4_isWhole rfl dX4_lots_105 (by decide +kernel) ⟨⟨rfl, rfl⟩, ⟨Nat.le_of_ble_eq_true rfl, Nat.le_of_ble_eq_true rfl⟩, Nat.zero_le _, Nat.zero_le _⟩ (JN.ro [1] rfl rfl) rfl rfl (Nat.le_of_ble_eq_true rfl) (fun H locs hP hD hS => ?_)
        refine lv_if_ne (tgt := 114) hx hb dX4_lots_108 (by decide) (fun c108 => ?_) (fun c108 => ?_)
        · replace h := fx_ite_f c108 h
          refine lv_aload_n hx hb dX4_lots_114 rfl (lv_at hl 0 rfl) ?_
          refine lv_aload_n hx hb dX4_lots_115 rfl (lv_at hl 0 rfl) ?_
          refine va_get (D := D) (ci := 4) (v := .ref (a 1)) (C := RX4) (T := TX4) (N := 16) hx hb hts i4 hown hK hP 0 rfl rfl 0 (by decide) f9 (fun _ h9 => h9) rfl dX4_lots_116 ?_
          refine lv_iconst (v := 0) hx hb dX4_lots_119 (by decide) ?_
          refine ald (n := 61) (f := ss) (k := 0) hx hb hK hP 1 0 rfl rfl (fx_lit rfl) rfl dX4_lots_120 ?_
          refine lv_iconst (v := 1) hx hb dX4_lots_121 (by decide) ?_
          refine lv_iadd hx hb dX4_lots_122 ?_
          obtain ⟨r123, u123_sd, q123, h⟩ := bnd2_inv h
          refine kVI (n := 1) (As := [.int ((ss 0) + (1 : Int32))]) (rest := []) CF hl hK hP hD hS hA (c_X4_drawn l D cI a ss mm im wa hi le ro re lm rm pl nu gi bg bm sd ((ss 0) + (1 : Int32)) r123 u123_sd q123) gX4_lots_X4_drawn rfl dX4_lots_123 (by decide +kernel) ⟨⟨rfl, rfl⟩, ⟨Nat.le_of_ble_eq_true rfl, Nat.le_of_ble_eq_true rfl⟩, Nat.zero_le _, Nat.zero_le _⟩ (JN.whole (w1 := (cM a cI ss mm im wa hi le ro re lm rm pl nu gi bg bm u123_sd)) rfl) 0 rfl ⟨rfl, rfl⟩ rfl rfl (Nat.le_of_ble_eq_true rfl) (fun H locs hP hD hS => ?_)
          replace hP : va_P D vwCl (cM a cI ss mm im wa hi le ro re lm rm pl nu gi bg bm u123_sd) H := hP
          replace hD : va_D A (cM a cI ss mm im wa hi le ro re lm rm pl nu gi bg bm u123_sd) := hD
          refine lv_istore (lv' := [(7, .int r123), (0, .ref (a 0)), (1, .int x1), (3, .int x3), (4, .int x4), (5, .int x5), (6, .int x6)]) hx hb dX4_lots_126 hl (by decide) rfl (fun ls hl => ?_)
          refine lv_aload_n hx hb dX4_lots_128 rfl (lv_at hl 1 rfl) ?_
          refine va_get (D := D) (ci := 4) (v := .ref (a 2)) (C := RX4) (T := TX4) (N := 16) hx hb hts i4 hown hK hP 0 rfl rfl 1 (by decide) f13 (fun _ h9 => h9) rfl dX4_lots_129 ?_
          refine lv_iload hx hb dX4_lots_132 (lv_at hl 6 rfl) ?_
          obtain ⟨r134, q134, h⟩ := bnd1_inv h
          refine kSI (n := 1) (As := [.int x6]) (rest := [.ref (a 2)]) CF hl hK hP hD hS hA (c_X4_ofT l D cI   x6 r134 q134) gX4_lots_X4_ofT rfl dX4_lots_134 (by decide +kernel) ⟨⟨rfl, rfl⟩, ⟨Nat.le_of_ble_eq_true rfl, Nat.le_of_ble_eq_true rfl⟩, Nat.zero_le _, Nat.zero_le _⟩ (JN.ro [] rfl rfl) rfl rfl (Nat.le_of_ble_eq_true rfl) (fun H locs hP hD hS => ?_)
          refine lv_iconst (v := 4) hx hb dX4_lots_137 (by decide) ?_
          refine lv_iadd hx hb dX4_lots_138 ?_
          refine lv_iload hx hb dX4_lots_139 (lv_at hl 0 rfl) ?_
          refine lv_aload_n hx hb dX4_lots_141 rfl (lv_at hl 1 rfl) ?_
          refine va_get (D := D) (ci := 4) (v := .ref (a 1)) (C := RX4) (T := TX4) (N := 16) hx hb hts i4 hown hK hP 0 rfl rfl 0 (by decide) f9 (fun _ h9 => h9) rfl dX4_lots_142 ?_
          refine lv_iconst (v := 0) hx hb dX4_lots_145 (by decide) ?_
          refine ald (n := 61) (f := ss) (k := 0) hx hb hK hP 1 0 rfl rfl (fx_lit rfl) rfl dX4_lots_146 ?_
          refine lv_icmp_ne (tgt := 155) hx hb dX4_lots_147 (by decide) (fun c147 => ?_) (fun c147 => ?_)
          · replace h := fx_ite_f c147 h
            refine lv_iload hx hb dX4_lots_155 (lv_at hl 0 rfl) ?_
            obtain ⟨g157, h⟩ := chk_inv h
            refine va_iast (n := 61) (f := mm) hx hb hK hP hD hS 2 0 rfl rfl g157 dX4_lots_157 (fun H locs hP hD hS => ?_)
            replace hP : va_P D vwCl (cM a cI ss (upd mm (Int32.toNatClampNeg (r134 + (4 : Int32))) r123) im wa hi le ro re lm rm pl nu gi bg bm u123_sd) H := hP
            replace hD : va_D A (cM a cI ss (upd mm (Int32.toNatClampNeg (r134 + (4 : Int32))) r123) im wa hi le ro re lm rm pl nu gi bg bm u123_sd) := hD
            refine lv_iinc (v := (x6 + 1)) (lv' := [(6, .int (x6 + 1)), (7, .int r123), (0, .ref (a 0)), (1, .int x1), (3, .int x3), (4, .int x4), (5, .int x5)]) hx hb dX4_lots_158 hl (k := 6) rfl (by first | rfl | decide) (by decide) rfl (fun ls hl => ?_)
            refine lv_goto (tgt := 88) hx hb dX4_lots_161 (by decide) ?_
            exact ih _ _ _ _ _ _ _ _ _ h hk164 _ _ _ hP hD hS (lv_sub hl [2, 3, 4, 5, 6, 0] rfl)
          · replace h := fx_ite_t c147 h
            refine lv_bipush (v := (-9)) hx hb dX4_lots_150 (by decide) ?_
            refine lv_goto (tgt := 157) hx hb dX4_lots_152 (by decide) ?_
            obtain ⟨g157, h⟩ := chk_inv h
            refine va_iast (n := 61) (f := mm) hx hb hK hP hD hS 2 0 rfl rfl g157 dX4_lots_157 (fun H locs hP hD hS => ?_)
            replace hP : va_P D vwCl (cM a cI ss (upd mm (Int32.toNatClampNeg (r134 + (4 : Int32))) (-9 : Int32)) im wa hi le ro re lm rm pl nu gi bg bm u123_sd) H := hP
            replace hD : va_D A (cM a cI ss (upd mm (Int32.toNatClampNeg (r134 + (4 : Int32))) (-9 : Int32)) im wa hi le ro re lm rm pl nu gi bg bm u123_sd) := hD
            refine lv_iinc (v := (x6 + 1)) (lv' := [(6, .int (x6 + 1)), (7, .int r123), (0, .ref (a 0)), (1, .int x1), (3, .int x3), (4, .int x4), (5, .int x5)]) hx hb dX4_lots_158 hl (k := 6) rfl (by first | rfl | decide) (by decide) rfl (fun ls hl => ?_)
            refine lv_goto (tgt := 88) hx hb dX4_lots_161 (by decide) ?_
            exact ih _ _ _ _ _ _ _ _ _ h hk164 _ _ _ hP hD hS (lv_sub hl [2, 3, 4, 5, 6, 0] rfl)
        · replace h := fx_ite_t c108 h
          refine lv_goto (tgt := 158) hx hb dX4_lots_111 (by decide) ?_
          refine lv_iinc (v := (x6 + 1)) (lv' := [(6, .int (x6 + 1)), (0, .ref (a 0)), (1, .int x1), (3, .int x3), (4, .int x4), (5, .int x5)]) hx hb dX4_lots_158 hl (k := 5) rfl (by first | rfl | decide) (by decide) rfl (fun ls hl => ?_)
          refine lv_goto (tgt := 88) hx hb dX4_lots_161 (by decide) ?_
          exact ih _ _ _ _ _ _ _ _ _ h hk164 _ _ _ hP hD hS (lv_sub hl [1, 2, 3, 4, 5, 0] rfl)
  have L68 : ∀ (n : Nat) (x1 : Int32) (x3 : Int32) (re : (Nat → Int32)) (x4 : Int32) (x5 : Int32) (mm : (Nat → Int32)) (sd : Int32), fuel (fun _ _ _ _ => none) (B_X4_lots_68 x1 x3 ss re) n x4 x5 mm sd = some (res, u_mm, u_re, u_sd) → 
      ∀ (H : Heap) (locs : List Loc) (ls : Array Slot), va_P D vwCl (cM a cI ss mm im wa hi le ro re lm rm pl nu gi bg bm sd) H → va_D A (cM a cI ss mm im wa hi le ro re lm rm pl nu gi bg bm sd) → va_S A s.heap H locs → lv_has ls 8 [(0, .ref (a 0)), (1, .int x1), (3, .int x3), (4, .int x4), (5, .int x5)] → W p l e { frames := 8, cells := 0, slots := 0, locals := 175 } s m args below meth c H locs 0 0 Q (F0 m 68 ls []) := by
    intro n
    induction n with
    | zero =>
      intro x1 x3 re x4 x5 mm sd h
      exact nomatch (show (none : Option (Int32 × (Nat → Int32) × (Nat → Int32) × Int32)) = some (res, u_mm, u_re, u_sd) from h)
    | succ n ih =>
      intro x1 x3 re x4 x5 mm sd h  H locs ls hP hD hS hl
      replace h : B_X4_lots_68 x1 x3 ss re (fuel (fun _ _ _ _ => none) (B_X4_lots_68 x1 x3 ss re) n) x4 x5 mm sd = some (res, u_mm, u_re, u_sd) := h
      unfold B_X4_lots_68 at h
      refine lv_iload hx hb dX4_lots_68 (lv_at hl 4 rfl) ?_
      refine lv_iload_n hx hb dX4_lots_70 rfl (lv_at hl 1 rfl) ?_
      refine lv_icmp_ge (tgt := 207) hx hb dX4_lots_71 (by decide) (fun c71 => ?_) (fun c71 => ?_)
      · replace h := fx_ite_t c71 h
        refine lv_iload hx hb dX4_lots_207 (lv_at hl 3 rfl) ?_
        obtain ⟨rfl, rfl, rfl, rfl⟩ := rtv4 h
        exact rI hQ hx hb hr hlocks hAe hP hS rfl rfl dX4_lots_209
      · replace h := fx_ite_f c71 h
        refine lv_aload_n hx hb dX4_lots_74 rfl (lv_at hl 0 rfl) ?_
        refine va_get (D := D) (ci := 4) (v := .ref (a 1)) (C := RX4) (T := TX4) (N := 16) hx hb hts i4 hown hK hP 0 rfl rfl 0 (by decide) f9 (fun _ h9 => h9) rfl dX4_lots_75 ?_
        refine lv_aload_n hx hb dX4_lots_78 rfl (lv_at hl 0 rfl) ?_
        refine va_get (D := D) (ci := 4) (v := .ref (a 2)) (C := RX4) (T := TX4) (N := 16) hx hb hts i4 hown hK hP 0 rfl rfl 1 (by decide) f13 (fun _ h9 => h9) rfl dX4_lots_79 ?_
        obtain ⟨u82_mm, q82, h⟩ := bnd1_inv h
        refine kSV (n := 2) (As := [.ref (a 1), .ref (a 2)]) (rest := []) CF hl hK hP hD hS hA (c_X4_copies l D cI (a 1) (a 2) ss mm  u82_mm q82) gX4_lots_X4_copies rfl dX4_lots_82 (by decide +kernel) ⟨⟨rfl, rfl⟩, ⟨Nat.le_of_ble_eq_true rfl, Nat.le_of_ble_eq_true rfl⟩, Nat.zero_le _, Nat.zero_le _⟩ (JN.sub (wst' := (cM a cI ss u82_mm im wa hi le ro re lm rm pl nu gi bg bm sd)) [1, 2] rfl rfl rfl rfl) rfl rfl (Nat.le_of_ble_eq_true rfl) (fun H locs hP hD hS => ?_)
        replace hP : va_P D vwCl (cM a cI ss u82_mm im wa hi le ro re lm rm pl nu gi bg bm sd) H := hP
        replace hD : va_D A (cM a cI ss u82_mm im wa hi le ro re lm rm pl nu gi bg bm sd) := hD
        refine lv_iconst (v := 0) hx hb dX4_lots_85 (by decide) ?_
        refine lv_istore (lv' := [(6, .int (0 : Int32)), (0, .ref (a 0)), (1, .int x1), (3, .int x3), (4, .int x4), (5, .int x5)]) hx hb dX4_lots_86 hl (by decide) rfl (fun ls hl => ?_)
        refine L88 FU _ _ _ _ _ _ _ _ _ h (fun mm sd h H locs ls hP hD hS hl => ?_) _ _ _ hP hD hS (lv_sub hl [1, 2, 3, 4, 5, 0] rfl)
        refine lv_aload_n hx hb dX4_lots_164 rfl (lv_at hl 0 rfl) ?_
        refine lv_bipush (v := 10) hx hb dX4_lots_165 (by decide) ?_
        obtain ⟨r167, u167_mm, q167, h⟩ := bnd2_inv h
        refine kVI (n := 1) (As := [.int (10 : Int32)]) (rest := []) CF hl hK hP hD hS hA (c_X4_wholeBehind l D cI a ss mm im wa hi le ro re lm rm pl nu gi bg bm sd (10 : Int32) r167 u167_mm q167) gX4_lots_X4_wholeBehind rfl dX4_lots_167 (by decide +kernel) ⟨⟨rfl, rfl⟩, ⟨Nat.le_of_ble_eq_true rfl, Nat.le_of_ble_eq_true rfl⟩, Nat.zero_le _, Nat.zero_le _⟩ (JN.whole (w1 := (cM a cI ss u167_mm im wa hi le ro re lm rm pl nu gi bg bm sd)) rfl) 0 rfl ⟨rfl, rfl⟩ rfl rfl (Nat.le_of_ble_eq_true rfl) (fun H locs hP hD hS => ?_)
        replace hP : va_P D vwCl (cM a cI ss u167_mm im wa hi le ro re lm rm pl nu gi bg bm sd) H := hP
        replace hD : va_D A (cM a cI ss u167_mm im wa hi le ro re lm rm pl nu gi bg bm sd) := hD
        refine lv_istore (lv' := [(6, .int r167), (0, .ref (a 0)), (1, .int x1), (3, .int x3), (4, .int x4), (5, .int x5)]) hx hb dX4_lots_170 hl (by decide) rfl (fun ls hl => ?_)
        refine lv_iload hx hb dX4_lots_172 (lv_at hl 4 rfl) ?_
        refine lv_iload_n hx hb dX4_lots_174 rfl (lv_at hl 3 rfl) ?_
        refine lv_if_ne (tgt := 183) hx hb dX4_lots_175 (by decide) (fun c175 => ?_) (fun c175 => ?_)
        · replace h := fx_ite_f c175 h
          refine lv_aload_n hx hb dX4_lots_183 rfl (lv_at hl 1 rfl) ?_
          refine va_get (D := D) (ci := 4) (v := .ref (a 2)) (C := RX4) (T := TX4) (N := 16) hx hb hts i4 hown hK hP 0 rfl rfl 1 (by decide) f13 (fun _ h9 => h9) rfl dX4_lots_184 ?_
          obtain ⟨r187, q187, h⟩ := bnd1_inv h
          refine kSI (n := 1) (As := [.ref (a 2)]) (rest := [.int x4]) CF hl hK hP hD hS hA (c_X4_mendedAll l D cI (a 2) u167_mm  r187 q187) gX4_lots_X4_mendedAll rfl dX4_lots_187 (by decide +kernel) ⟨⟨rfl, rfl⟩, ⟨Nat.le_of_ble_eq_true rfl, Nat.le_of_ble_eq_true rfl⟩, Nat.zero_le _, Nat.zero_le _⟩ (JN.ro [2] rfl rfl) rfl rfl (Nat.le_of_ble_eq_true rfl) (fun H locs hP hD hS => ?_)
          refine lv_aload_n hx hb dX4_lots_190 rfl (lv_at hl 1 rfl) ?_
          refine va_get (D := D) (ci := 4) (v := .ref (a 1)) (C := RX4) (T := TX4) (N := 16) hx hb hts i4 hown hK hP 0 rfl rfl 0 (by decide) f9 (fun _ h9 => h9) rfl dX4_lots_191 ?_
          obtain ⟨r194, q194, h⟩ := bnd1_inv h
          refine kSI (n := 1) (As := [.ref (a 1)]) (rest := [.int r187, .int x4]) CF hl hK hP hD hS hA (c_X4_mendedAll l D cI (a 1) ss  r194 q194) gX4_lots_X4_mendedAll rfl dX4_lots_194 (by decide +kernel) ⟨⟨rfl, rfl⟩, ⟨Nat.le_of_ble_eq_true rfl, Nat.le_of_ble_eq_true rfl⟩, Nat.zero_le _, Nat.zero_le _⟩ (JN.ro [1] rfl rfl) rfl rfl (Nat.le_of_ble_eq_true rfl) (fun H locs hP hD hS => ?_)
          refine lv_isub hx hb dX4_lots_197 ?_
          refine lv_iadd hx hb dX4_lots_198 ?_
          refine lv_istore (lv' := [(4, .int (x4 + (r187 - r194))), (6, .int r167), (0, .ref (a 0)), (1, .int x1), (3, .int x3), (5, .int x5)]) hx hb dX4_lots_199 hl (by decide) rfl (fun ls hl => ?_)
          refine lv_iinc (v := (x5 + 1)) (lv' := [(5, .int (x5 + 1)), (4, .int (x4 + (r187 - r194))), (6, .int r167), (0, .ref (a 0)), (1, .int x1), (3, .int x3)]) hx hb dX4_lots_201 hl (k := 5) rfl (by first | rfl | decide) (by decide) rfl (fun ls hl => ?_)
          refine lv_goto (tgt := 68) hx hb dX4_lots_204 (by decide) ?_
          exact ih _ _ _ _ _ _ _ h  _ _ _ hP hD hS (lv_sub hl [3, 4, 5, 1, 0] rfl)
        · replace h := fx_ite_t c175 h
          refine lv_iload hx hb dX4_lots_178 (lv_at hl 0 rfl) ?_
          refine lv_goto (tgt := 198) hx hb dX4_lots_180 (by decide) ?_
          refine lv_iadd hx hb dX4_lots_198 ?_
          refine lv_istore (lv' := [(4, .int (x4 + r167)), (6, .int r167), (0, .ref (a 0)), (1, .int x1), (3, .int x3), (5, .int x5)]) hx hb dX4_lots_199 hl (by decide) rfl (fun ls hl => ?_)
          refine lv_iinc (v := (x5 + 1)) (lv' := [(5, .int (x5 + 1)), (4, .int (x4 + r167)), (6, .int r167), (0, .ref (a 0)), (1, .int x1), (3, .int x3)]) hx hb dX4_lots_201 hl (k := 5) rfl (by first | rfl | decide) (by decide) rfl (fun ls hl => ?_)
          refine lv_goto (tgt := 68) hx hb dX4_lots_204 (by decide) ?_
          exact ih _ _ _ _ _ _ _ h  _ _ _ hP hD hS (lv_sub hl [3, 4, 5, 1, 0] rfl)
  unfold M_X4_lots at h
  refine lv_iload_n hx hb dX4_lots_0 rfl (lv_at hl 1 rfl) ?_
  refine lv_iconst (v := 1) hx hb dX4_lots_1 (by decide) ?_
  refine lv_icmp_ge (tgt := 12) hx hb dX4_lots_2 (by decide) (fun c2 => ?_) (fun c2 => ?_)
  · replace h := fx_ite_t c2 h
    refine lv_iload_n hx hb dX4_lots_12 rfl (lv_at hl 1 rfl) ?_
    refine lv_bipush (v := 20) hx hb dX4_lots_13 (by decide) ?_
    refine lv_icmp_le (tgt := 25) hx hb dX4_lots_15 (by decide) (fun c15 => ?_) (fun c15 => ?_)
    · replace h := fx_ite_t c15 h
      refine lv_iload_n hx hb dX4_lots_25 rfl (lv_at hl 3 rfl) ?_
      refine lv_iconst (v := 0) hx hb dX4_lots_26 (by decide) ?_
      refine lv_iconst (v := 1) hx hb dX4_lots_27 (by decide) ?_
      obtain ⟨r28, q28, h⟩ := bnd1_inv h
      refine kSI (n := 3) (As := [.int p3, .int (0 : Int32), .int (1 : Int32)]) (rest := []) CF hl hK hP hD hS hA (c_X4_isIn l D cI   p3 (0 : Int32) (1 : Int32) r28 q28) gX4_lots_X4_isIn rfl dX4_lots_28 (by decide +kernel) ⟨⟨rfl, rfl⟩, ⟨Nat.le_of_ble_eq_true rfl, Nat.le_of_ble_eq_true rfl⟩, Nat.zero_le _, Nat.zero_le _⟩ (JN.ro [] rfl rfl) rfl rfl (Nat.le_of_ble_eq_true rfl) (fun H locs hP hD hS => ?_)
      refine lv_if_ne (tgt := 41) hx hb dX4_lots_31 (by decide) (fun c31 => ?_) (fun c31 => ?_)
      · replace h := fx_ite_f c31 h
        refine lv_aload_n hx hb dX4_lots_41 rfl (lv_at hl 0 rfl) ?_
        refine va_get (D := D) (ci := 4) (v := .ref (a 1)) (C := RX4) (T := TX4) (N := 16) hx hb hts i4 hown hK hP 0 rfl rfl 0 (by decide) f9 (fun _ h9 => h9) rfl dX4_lots_42 ?_
        refine lv_iconst (v := 0) hx hb dX4_lots_45 (by decide) ?_
        refine ald (n := 61) (f := ss) (k := 0) hx hb hK hP 1 0 rfl rfl (fx_lit rfl) rfl dX4_lots_46 ?_
        refine lv_if_ne (tgt := 57) hx hb dX4_lots_47 (by decide) (fun c47 => ?_) (fun c47 => ?_)
        · replace h := fx_ite_f c47 h
          refine lv_aload_n hx hb dX4_lots_57 rfl (lv_at hl 0 rfl) ?_
          refine lv_iload_n hx hb dX4_lots_58 rfl (lv_at hl 2 rfl) ?_
          refine va_put (D := D) (ci := 4) (v := .int p2) (ty := .int) (C := RX4) (T := TX4) (N := 16) hx hb hts i4 tyX4 tyX4_ok nmX4 hown hK hP hD hS 0 rfl rfl 15 (by decide) f230 (fun _ h9 => h9) rfl (by decide +kernel) rfl rfl (Nat.le_of_ble_eq_true rfl) dX4_lots_59 (fun H locs hP hD hS => ?_)
          replace hP : va_P D vwCl (cM a cI ss mm im wa hi le ro re lm rm pl nu gi bg bm p2) H := hP
          replace hD : va_D A (cM a cI ss mm im wa hi le ro re lm rm pl nu gi bg bm p2) := hD
          refine lv_iconst (v := 0) hx hb dX4_lots_62 (by decide) ?_
          refine lv_istore (lv' := [(4, .int (0 : Int32)), (0, .ref (a 0)), (1, .int p1), (2, .int p2), (3, .int p3)]) hx hb dX4_lots_63 hl (by decide) rfl (fun ls hl => ?_)
          refine lv_iconst (v := 0) hx hb dX4_lots_65 (by decide) ?_
          refine lv_istore (lv' := [(5, .int (0 : Int32)), (4, .int (0 : Int32)), (0, .ref (a 0)), (1, .int p1), (2, .int p2), (3, .int p3)]) hx hb dX4_lots_66 hl (by decide) rfl (fun ls hl => ?_)
          exact L68 FU _ _ _ _ _ _ _ h  _ _ _ hP hD hS (lv_sub hl [2, 3, 5, 1, 0] rfl)
        · replace h := fx_ite_t c47 h
          refine lv_aload_n hx hb dX4_lots_50 rfl (lv_at hl 0 rfl) ?_
          refine lv_bipush (v := (-3)) hx hb dX4_lots_51 (by decide) ?_
          obtain ⟨r53, u53_re, q53, h⟩ := bnd2_inv h
          refine kVI (n := 1) (As := [.int (-3 : Int32)]) (rest := []) CF hl hK hP hD hS hA (c_X4_no l D cI a ss mm im wa hi le ro re lm rm pl nu gi bg bm sd (-3 : Int32) r53 u53_re q53) gX4_lots_X4_no rfl dX4_lots_53 (by decide +kernel) ⟨⟨rfl, rfl⟩, ⟨Nat.le_of_ble_eq_true rfl, Nat.le_of_ble_eq_true rfl⟩, Nat.zero_le _, Nat.zero_le _⟩ (JN.whole (w1 := (cM a cI ss mm im wa hi le ro u53_re lm rm pl nu gi bg bm sd)) rfl) 0 rfl ⟨rfl, rfl⟩ rfl rfl (Nat.le_of_ble_eq_true rfl) (fun H locs hP hD hS => ?_)
          replace hP : va_P D vwCl (cM a cI ss mm im wa hi le ro u53_re lm rm pl nu gi bg bm sd) H := hP
          replace hD : va_D A (cM a cI ss mm im wa hi le ro u53_re lm rm pl nu gi bg bm sd) := hD
          obtain ⟨rfl, rfl, rfl, rfl⟩ := rtv4 h
          exact rI hQ hx hb hr hlocks hAe hP hS rfl rfl dX4_lots_56
      · replace h := fx_ite_t c31 h
        refine lv_aload_n hx hb dX4_lots_34 rfl (lv_at hl 0 rfl) ?_
        refine lv_bipush (v := (-2)) hx hb dX4_lots_35 (by decide) ?_
        obtain ⟨r37, u37_re, q37, h⟩ := bnd2_inv h
        refine kVI (n := 1) (As := [.int (-2 : Int32)]) (rest := []) CF hl hK hP hD hS hA (c_X4_no l D cI a ss mm im wa hi le ro re lm rm pl nu gi bg bm sd (-2 : Int32) r37 u37_re q37) gX4_lots_X4_no rfl dX4_lots_37 (by decide +kernel) ⟨⟨rfl, rfl⟩, ⟨Nat.le_of_ble_eq_true rfl, Nat.le_of_ble_eq_true rfl⟩, Nat.zero_le _, Nat.zero_le _⟩ (JN.whole (w1 := (cM a cI ss mm im wa hi le ro u37_re lm rm pl nu gi bg bm sd)) rfl) 0 rfl ⟨rfl, rfl⟩ rfl rfl (Nat.le_of_ble_eq_true rfl) (fun H locs hP hD hS => ?_)
        replace hP : va_P D vwCl (cM a cI ss mm im wa hi le ro u37_re lm rm pl nu gi bg bm sd) H := hP
        replace hD : va_D A (cM a cI ss mm im wa hi le ro u37_re lm rm pl nu gi bg bm sd) := hD
        obtain ⟨rfl, rfl, rfl, rfl⟩ := rtv4 h
        exact rI hQ hx hb hr hlocks hAe hP hS rfl rfl dX4_lots_40
    · replace h := fx_ite_f c15 h
      refine lv_aload_n hx hb dX4_lots_18 rfl (lv_at hl 0 rfl) ?_
      refine lv_bipush (v := (-6)) hx hb dX4_lots_19 (by decide) ?_
      obtain ⟨r21, u21_re, q21, h⟩ := bnd2_inv h
      refine kVI (n := 1) (As := [.int (-6 : Int32)]) (rest := []) CF hl hK hP hD hS hA (c_X4_no l D cI a ss mm im wa hi le ro re lm rm pl nu gi bg bm sd (-6 : Int32) r21 u21_re q21) gX4_lots_X4_no rfl dX4_lots_21 (by decide +kernel) ⟨⟨rfl, rfl⟩, ⟨Nat.le_of_ble_eq_true rfl, Nat.le_of_ble_eq_true rfl⟩, Nat.zero_le _, Nat.zero_le _⟩ (JN.whole (w1 := (cM a cI ss mm im wa hi le ro u21_re lm rm pl nu gi bg bm sd)) rfl) 0 rfl ⟨rfl, rfl⟩ rfl rfl (Nat.le_of_ble_eq_true rfl) (fun H locs hP hD hS => ?_)
      replace hP : va_P D vwCl (cM a cI ss mm im wa hi le ro u21_re lm rm pl nu gi bg bm sd) H := hP
      replace hD : va_D A (cM a cI ss mm im wa hi le ro u21_re lm rm pl nu gi bg bm sd) := hD
      obtain ⟨rfl, rfl, rfl, rfl⟩ := rtv4 h
      exact rI hQ hx hb hr hlocks hAe hP hS rfl rfl dX4_lots_24
  · replace h := fx_ite_f c2 h
    refine lv_aload_n hx hb dX4_lots_5 rfl (lv_at hl 0 rfl) ?_
    refine lv_bipush (v := (-4)) hx hb dX4_lots_6 (by decide) ?_
    obtain ⟨r8, u8_re, q8, h⟩ := bnd2_inv h
    refine kVI (n := 1) (As := [.int (-4 : Int32)]) (rest := []) CF hl hK hP hD hS hA (c_X4_no l D cI a ss mm im wa hi le ro re lm rm pl nu gi bg bm sd (-4 : Int32) r8 u8_re q8) gX4_lots_X4_no rfl dX4_lots_8 (by decide +kernel) ⟨⟨rfl, rfl⟩, ⟨Nat.le_of_ble_eq_true rfl, Nat.le_of_ble_eq_true rfl⟩, Nat.zero_le _, Nat.zero_le _⟩ (JN.whole (w1 := (cM a cI ss mm im wa hi le ro u8_re lm rm pl nu gi bg bm sd)) rfl) 0 rfl ⟨rfl, rfl⟩ rfl rfl (Nat.le_of_ble_eq_true rfl) (fun H locs hP hD hS => ?_)
    replace hP : va_P D vwCl (cM a cI ss mm im wa hi le ro u8_re lm rm pl nu gi bg bm sd) H := hP
    replace hD : va_D A (cM a cI ss mm im wa hi le ro u8_re lm rm pl nu gi bg bm sd) := hD
    obtain ⟨rfl, rfl, rfl, rfl⟩ := rtv4 h
    exact rI hQ hx hb hr hlocks hAe hP hS rfl rfl dX4_lots_11
