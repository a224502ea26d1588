/-! X4_learns -/
set_option maxHeartbeats 4000000 in
set_option maxRecDepth 100000 in
theorem c_X4_learns (l : Launch) (D : va_G) (cI : ClassId) (a : Nat → Nat) (ss : (Nat → Int32)) (mm : (Nat → Int32)) (im : (Nat → Int32)) (wa : (Nat → Int32)) (hi : Int32) (le : (Nat → Int32)) (ro : (Nat → Int32)) (re : (Nat → Int32)) (lm : Int32) (rm : Int32) (pl : Int32) (nu : (Nat → Int32)) (gi : (Nat → Int32)) (bg : (Nat → Int32)) (bm : Int32) (sd : Int32) (p1 : Int32) (res : Int32) (u_mm : (Nat → Int32)) (u_re : (Nat → Int32)) (h : M_X4_learns ss mm re p1 = some (res, u_mm, u_re)) : mI l yX4_learns wsX4_learns { frames := 8, cells := 0, slots := 0, locals := 175 } D cI [.ref (a 0), .int p1] (cM a cI ss mm im wa hi le ro re lm rm pl nu gi bg bm sd) (cM a cI ss u_mm im wa hi le ro u_re lm rm pl nu gi bg bm sd) res := by
  intro sz
  refine mStart (cc := cX4_learns) (maxL := 7) (ret := (some .int)) (own := RX4) (by decide) rfl rfl (Nat.le_of_ble_eq_true rfl) (lv := [(0, .ref (a 0)), (1, .int p1)]) rfl ?_
  intro p e s m args below meth c A ls Q H locs CF hr hlocks hK hP hD hS hA hAe hl hQ
  obtain ⟨hx, hb, hml, hown, hts⟩ := id CF
  have f9 := hts (.fieldLink RX4 9 "MendAnothersBreakingModel" "s" "[I") (List.mem_of_getElem? (i := 1) rfl)
  have f13 := hts (.fieldLink RX4 13 "MendAnothersBreakingModel" "m" "[I") (List.mem_of_getElem? (i := 2) rfl)
  have i4 : ∀ w ∈ wsX40, w ∈ wsX4_learns := fun w h => List.mem_cons_of_mem _ (List.mem_append_right _ h)
  have L41 : ∀ (n : Nat) (x1 : Int32) (re : (Nat → Int32)) (x3 : Int32) (x4 : Int32) (x5 : Int32) (mm : (Nat → Int32)), fuel (fun _ _ _ _ => none) (B_X4_learns_41 x1 ss re) n x3 x4 x5 mm = some (res, u_mm, u_re) → 
      ∀ (H : Heap) (locs : List Loc) (ls : Array Slot), va_P D vwCl (cM a cI ss mm im wa hi le ro re lm rm pl nu gi bg bm sd) H → va_D A (cM a cI ss mm im wa hi le ro re lm rm pl nu gi bg bm sd) → va_S A s.heap H locs → lv_has ls 7 [(0, .ref (a 0)), (1, .int x1), (3, .int x3), (4, .int x4), (5, .int x5)] → W p l e { frames := 8, cells := 0, slots := 0, locals := 175 } s m args below meth c H locs 0 0 Q (F0 m 41 ls []) := by
    intro n
    induction n with
    | zero =>
      intro x1 re x3 x4 x5 mm h
      exact nomatch (show (none : Option (Int32 × (Nat → Int32) × (Nat → Int32))) = some (res, u_mm, u_re) from h)
    | succ n ih =>
      intro x1 re x3 x4 x5 mm h  H locs ls hP hD hS hl
      replace h : B_X4_learns_41 x1 ss re (fuel (fun _ _ _ _ => none) (B_X4_learns_41 x1 ss re) n) x3 x4 x5 mm = some (res, u_mm, u_re) := h
      unfold B_X4_learns_41 at h
      refine lv_iload hx hb dX4_learns_41 (lv_at hl 4 rfl) ?_
      refine lv_aload_n hx hb dX4_learns_43 rfl (lv_at hl 0 rfl) ?_
      refine va_get (D := D) (ci := 4) (v := .ref (a 1)) (C := RX4) (T := TX4) (N := 16) hx hb hts i4 hown hK hP 0 rfl rfl 0 (by decide) f9 (fun _ h9 => h9) rfl dX4_learns_44 ?_
      refine lv_iconst (v := 0) hx hb dX4_learns_47 (by decide) ?_
      refine ald (n := 61) (f := ss) (k := 0) hx hb hK hP 1 0 rfl rfl (fx_lit rfl) rfl dX4_learns_48 ?_
      refine lv_icmp_ge (tgt := 106) hx hb dX4_learns_49 (by decide) (fun c49 => ?_) (fun c49 => ?_)
      · replace h := fx_ite_t c49 h
        refine lv_iload hx hb dX4_learns_106 (lv_at hl 3 rfl) ?_
        obtain ⟨rfl, rfl, rfl⟩ := rtv3 h
        exact rI hQ hx hb hr hlocks hAe hP hS rfl rfl dX4_learns_108
      · replace h := fx_ite_f c49 h
        refine lv_aload_n hx hb dX4_learns_52 rfl (lv_at hl 0 rfl) ?_
        refine va_get (D := D) (ci := 4) (v := .ref (a 1)) (C := RX4) (T := TX4) (N := 16) hx hb hts i4 hown hK hP 0 rfl rfl 0 (by decide) f9 (fun _ h9 => h9) rfl dX4_learns_53 ?_
        refine lv_aload_n hx hb dX4_learns_56 rfl (lv_at hl 0 rfl) ?_
        refine va_get (D := D) (ci := 4) (v := .ref (a 2)) (C := RX4) (T := TX4) (N := 16) hx hb hts i4 hown hK hP 0 rfl rfl 1 (by decide) f13 (fun _ h9 => h9) rfl dX4_learns_57 ?_
        obtain ⟨u60_mm, q60, h⟩ := bnd1_inv h
        refine kSV (n := 2) (As := [.ref (a 1), .ref (a 2)]) (rest := []) CF hl hK hP hD hS hA (c_X4_copies l D cI (a 1) (a 2) ss mm  u60_mm q60) gX4_learns_X4_copies rfl dX4_learns_60 (by decide +kernel) ⟨⟨rfl, rfl⟩, ⟨Nat.le_of_ble_eq_true rfl, Nat.le_of_ble_eq_true rfl⟩, Nat.zero_le _, Nat.zero_le _⟩ (JN.sub (wst' := (cM a cI ss u60_mm im wa hi le ro re lm rm pl nu gi bg bm sd)) [1, 2] rfl rfl rfl rfl) rfl rfl (Nat.le_of_ble_eq_true rfl) (fun H locs hP hD hS => ?_)
        replace hP : va_P D vwCl (cM a cI ss u60_mm im wa hi le ro re lm rm pl nu gi bg bm sd) H := hP
        replace hD : va_D A (cM a cI ss u60_mm im wa hi le ro re lm rm pl nu gi bg bm sd) := hD
        refine lv_aload_n hx hb dX4_learns_63 rfl (lv_at hl 0 rfl) ?_
        refine va_get (D := D) (ci := 4) (v := .ref (a 2)) (C := RX4) (T := TX4) (N := 16) hx hb hts i4 hown hK hP 0 rfl rfl 1 (by decide) f13 (fun _ h9 => h9) rfl dX4_learns_64 ?_
        refine lv_iload hx hb dX4_learns_67 (lv_at hl 4 rfl) ?_
        obtain ⟨r69, q69, h⟩ := bnd1_inv h
        refine kSI (n := 1) (As := [.int x5]) (rest := [.ref (a 2)]) CF hl hK hP hD hS hA (c_X4_ofP l D cI   x5 r69 q69) gX4_learns_X4_ofP rfl dX4_learns_69 (by decide +kernel) ⟨⟨rfl, rfl⟩, ⟨Nat.le_of_ble_eq_true rfl, Nat.le_of_ble_eq_true rfl⟩, Nat.zero_le _, Nat.zero_le _⟩ (JN.ro [] rfl rfl) rfl rfl (Nat.le_of_ble_eq_true rfl) (fun H locs hP hD hS => ?_)
        refine lv_iconst (v := 0) hx hb dX4_learns_72 (by decide) ?_
        refine lv_iadd hx hb dX4_learns_73 ?_
        refine lv_bipush (v := 9) hx hb dX4_learns_74 (by decide) ?_
        obtain ⟨g76, h⟩ := chk_inv h
        refine va_iast (n := 61) (f := u60_mm) hx hb hK hP hD hS 2 0 rfl rfl g76 dX4_learns_76 (fun H locs hP hD hS => ?_)
        replace hP : va_P D vwCl (cM a cI ss (upd u60_mm (Int32.toNatClampNeg (r69 + (0 : Int32))) (9 : Int32)) im wa hi le ro re lm rm pl nu gi bg bm sd) H := hP
        replace hD : va_D A (cM a cI ss (upd u60_mm (Int32.toNatClampNeg (r69 + (0 : Int32))) (9 : Int32)) im wa hi le ro re lm rm pl nu gi bg bm sd) := hD
        refine lv_aload_n hx hb dX4_learns_77 rfl (lv_at hl 0 rfl) ?_
        refine lv_iload_n hx hb dX4_learns_78 rfl (lv_at hl 1 rfl) ?_
        obtain ⟨r79, u79_mm, q79, h⟩ := bnd2_inv h
        refine kVI (n := 1) (As := [.int x1]) (rest := []) CF hl hK hP hD hS hA (c_X4_wholeBehind l D cI a ss (upd u60_mm (Int32.toNatClampNeg (r69 + (0 : Int32))) (9 : Int32)) im wa hi le ro re lm rm pl nu gi bg bm sd x1 r79 u79_mm q79) gX4_learns_X4_wholeBehind rfl dX4_learns_79 (by decide +kernel) ⟨⟨rfl, rfl⟩, ⟨Nat.le_of_ble_eq_true rfl, Nat.le_of_ble_eq_true rfl⟩, Nat.zero_le _, Nat.zero_le _⟩ (JN.whole (w1 := (cM a cI ss u79_mm im wa hi le ro re lm rm pl nu gi bg bm sd)) rfl) 0 rfl ⟨rfl, rfl⟩ rfl rfl (Nat.le_of_ble_eq_true rfl) (fun H locs hP hD hS => ?_)
        replace hP : va_P D vwCl (cM a cI ss u79_mm im wa hi le ro re lm rm pl nu gi bg bm sd) H := hP
        replace hD : va_D A (cM a cI ss u79_mm im wa hi le ro re lm rm pl nu gi bg bm sd) := hD
        refine lv_istore (lv' := [(6, .int r79), (0, .ref (a 0)), (1, .int x1), (3, .int x3), (4, .int x4), (5, .int x5)]) hx hb dX4_learns_82 hl (by decide) rfl (fun ls hl => ?_)
        refine lv_iload hx hb dX4_learns_84 (lv_at hl 0 rfl) ?_
        refine lv_iload_n hx hb dX4_learns_86 rfl (lv_at hl 3 rfl) ?_
        refine lv_icmp_gt (tgt := 93) hx hb dX4_learns_87 (by decide) (fun c87 => ?_) (fun c87 => ?_)
        · replace h := fx_ite_t c87 h
          refine lv_iload hx hb dX4_learns_93 (lv_at hl 5 rfl) ?_
          refine lv_istore (lv' := [(4, .int x5), (6, .int r79), (0, .ref (a 0)), (1, .int x1), (3, .int x3), (5, .int x5)]) hx hb dX4_learns_95 hl (by decide) rfl (fun ls hl => ?_)
          refine lv_iload hx hb dX4_learns_97 (lv_at hl 1 rfl) ?_
          refine lv_istore_n (lv' := [(3, .int r79), (4, .int x5), (6, .int r79), (0, .ref (a 0)), (1, .int x1), (5, .int x5)]) hx hb dX4_learns_99 rfl hl (by decide) rfl (fun ls hl => ?_)
          refine lv_iinc (v := (x5 + 1)) (lv' := [(5, .int (x5 + 1)), (3, .int r79), (4, .int x5), (6, .int r79), (0, .ref (a 0)), (1, .int x1)]) hx hb dX4_learns_100 hl (k := 5) rfl (by first | rfl | decide) (by decide) rfl (fun ls hl => ?_)
          refine lv_goto (tgt := 41) hx hb dX4_learns_103 (by decide) ?_
          exact ih _ _ _ _ _ _ h  _ _ _ hP hD hS (lv_sub hl [4, 5, 1, 2, 0] rfl)
        · replace h := fx_ite_f c87 h
          refine lv_goto (tgt := 100) hx hb dX4_learns_90 (by decide) ?_
          refine lv_iinc (v := (x5 + 1)) (lv' := [(5, .int (x5 + 1)), (6, .int r79), (0, .ref (a 0)), (1, .int x1), (3, .int x3), (4, .int x4)]) hx hb dX4_learns_100 hl (k := 5) rfl (by first | rfl | decide) (by decide) rfl (fun ls hl => ?_)
          refine lv_goto (tgt := 41) hx hb dX4_learns_103 (by decide) ?_
          exact ih _ _ _ _ _ _ h  _ _ _ hP hD hS (lv_sub hl [2, 3, 4, 5, 0] rfl)
  unfold M_X4_learns at h
  refine lv_iload_n hx hb dX4_learns_0 rfl (lv_at hl 1 rfl) ?_
  refine lv_bipush (v := 99) hx hb dX4_learns_1 (by decide) ?_
  obtain ⟨r3, q3, h⟩ := bnd1_inv h
  refine kSI (n := 2) (As := [.int p1, .int (99 : Int32)]) (rest := []) CF hl hK hP hD hS hA (c_X4_wrongBy l D cI   p1 (99 : Int32) r3 q3) gX4_learns_X4_wrongBy rfl dX4_learns_3 (by decide +kernel) ⟨⟨rfl, rfl⟩, ⟨Nat.le_of_ble_eq_true rfl, Nat.le_of_ble_eq_true rfl⟩, Nat.zero_le _, Nat.zero_le _⟩ (JN.ro [] rfl rfl) rfl rfl (Nat.le_of_ble_eq_true rfl) (fun H locs hP hD hS => ?_)
  refine lv_istore_n (lv' := [(2, .int r3), (0, .ref (a 0)), (1, .int p1)]) hx hb dX4_learns_6 rfl hl (by decide) rfl (fun ls hl => ?_)
  refine lv_iload_n hx hb dX4_learns_7 rfl (lv_at hl 0 rfl) ?_
  refine lv_if_eq (tgt := 17) hx hb dX4_learns_8 (by decide) (fun c8 => ?_) (fun c8 => ?_)
  · replace h := fx_ite_t c8 h
    refine lv_aload_n hx hb dX4_learns_17 rfl (lv_at hl 1 rfl) ?_
    refine va_get (D := D) (ci := 4) (v := .ref (a 1)) (C := RX4) (T := TX4) (N := 16) hx hb hts i4 hown hK hP 0 rfl rfl 0 (by decide) f9 (fun _ h9 => h9) rfl dX4_learns_18 ?_
    refine lv_aload_n hx hb dX4_learns_21 rfl (lv_at hl 1 rfl) ?_
    refine va_get (D := D) (ci := 4) (v := .ref (a 2)) (C := RX4) (T := TX4) (N := 16) hx hb hts i4 hown hK hP 0 rfl rfl 1 (by decide) f13 (fun _ h9 => h9) rfl dX4_learns_22 ?_
    obtain ⟨u25_mm, q25, h⟩ := bnd1_inv h
    refine kSV (n := 2) (As := [.ref (a 1), .ref (a 2)]) (rest := []) CF hl hK hP hD hS hA (c_X4_copies l D cI (a 1) (a 2) ss mm  u25_mm q25) gX4_learns_X4_copies rfl dX4_learns_25 (by decide +kernel) ⟨⟨rfl, rfl⟩, ⟨Nat.le_of_ble_eq_true rfl, Nat.le_of_ble_eq_true rfl⟩, Nat.zero_le _, Nat.zero_le _⟩ (JN.sub (wst' := (cM a cI ss u25_mm im wa hi le ro re lm rm pl nu gi bg bm sd)) [1, 2] rfl rfl rfl rfl) rfl rfl (Nat.le_of_ble_eq_true rfl) (fun H locs hP hD hS => ?_)
    replace hP : va_P D vwCl (cM a cI ss u25_mm im wa hi le ro re lm rm pl nu gi bg bm sd) H := hP
    replace hD : va_D A (cM a cI ss u25_mm im wa hi le ro re lm rm pl nu gi bg bm sd) := hD
    refine lv_aload_n hx hb dX4_learns_28 rfl (lv_at hl 1 rfl) ?_
    refine lv_iload_n hx hb dX4_learns_29 rfl (lv_at hl 2 rfl) ?_
    obtain ⟨r30, u30_mm, q30, h⟩ := bnd2_inv h
    refine kVI (n := 1) (As := [.int p1]) (rest := []) CF hl hK hP hD hS hA (c_X4_wholeBehind l D cI a ss u25_mm im wa hi le ro re lm rm pl nu gi bg bm sd p1 r30 u30_mm q30) gX4_learns_X4_wholeBehind rfl dX4_learns_30 (by decide +kernel) ⟨⟨rfl, rfl⟩, ⟨Nat.le_of_ble_eq_true rfl, Nat.le_of_ble_eq_true rfl⟩, Nat.zero_le _, Nat.zero_le _⟩ (JN.whole (w1 := (cM a cI ss u30_mm im wa hi le ro re lm rm pl nu gi bg bm sd)) rfl) 0 rfl ⟨rfl, rfl⟩ rfl rfl (Nat.le_of_ble_eq_true rfl) (fun H locs hP hD hS => ?_)
    replace hP : va_P D vwCl (cM a cI ss u30_mm im wa hi le ro re lm rm pl nu gi bg bm sd) H := hP
    replace hD : va_D A (cM a cI ss u30_mm im wa hi le ro re lm rm pl nu gi bg bm sd) := hD
    refine lv_istore_n (lv' := [(3, .int r30), (2, .int r3), (0, .ref (a 0)), (1, .int p1)]) hx hb dX4_learns_33 rfl hl (by decide) rfl (fun ls hl => ?_)
    refine lv_bipush (v := (-9)) hx hb dX4_learns_34 (by decide) ?_
    refine lv_istore (lv' := [(4, .int (-9 : Int32)), (3, .int r30), (2, .int r3), (0, .ref (a 0)), (1, .int p1)]) hx hb dX4_learns_36 hl (by decide) rfl (fun ls hl => ?_)
    refine lv_iconst (v := 0) hx hb dX4_learns_38 (by decide) ?_
    refine lv_istore (lv' := [(5, .int (0 : Int32)), (4, .int (-9 : Int32)), (3, .int r30), (2, .int r3), (0, .ref (a 0)), (1, .int p1)]) hx hb dX4_learns_39 hl (by decide) rfl (fun ls hl => ?_)
    exact L41 FU _ _ _ _ _ _ h  _ _ _ hP hD hS (lv_sub hl [4, 5, 2, 1, 0] rfl)
  · replace h := fx_ite_f c8 h
    refine lv_aload_n hx hb dX4_learns_11 rfl (lv_at hl 1 rfl) ?_
    refine lv_iload_n hx hb dX4_learns_12 rfl (lv_at hl 0 rfl) ?_
    obtain ⟨r13, u13_re, q13, h⟩ := bnd2_inv h
    refine kVI (n := 1) (As := [.int r3]) (rest := []) CF hl hK hP hD hS hA (c_X4_no l D cI a ss mm im wa hi le ro re lm rm pl nu gi bg bm sd r3 r13 u13_re q13) gX4_learns_X4_no rfl dX4_learns_13 (by decide +kernel) ⟨⟨rfl, rfl⟩, ⟨Nat.le_of_ble_eq_true rfl, Nat.le_of_ble_eq_true rfl⟩, Nat.zero_le _, Nat.zero_le _⟩ (JN.whole (w1 := (cM a cI ss mm im wa hi le ro u13_re lm rm pl nu gi bg bm sd)) rfl) 0 rfl ⟨rfl, rfl⟩ rfl rfl (Nat.le_of_ble_eq_true rfl) (fun H locs hP hD hS => ?_)
    replace hP : va_P D vwCl (cM a cI ss mm im wa hi le ro u13_re lm rm pl nu gi bg bm sd) H := hP
    replace hD : va_D A (cM a cI ss mm im wa hi le ro u13_re lm rm pl nu gi bg bm sd) := hD
    obtain ⟨rfl, rfl, rfl⟩ := rtv3 h
    exact rI hQ hx hb hr hlocks hAe hP hS rfl rfl dX4_learns_16
/-! X4_missed -/
set_option maxHeartbeats 4000000 in
set_option maxRecDepth 100000 in
theorem c_X4_missed (l : Launch) (D : va_G) (cI : ClassId) (a : Nat → Nat) (ss : (Nat → Int32)) (mm : (Nat → Int32)) (im : (Nat → Int32)) (wa : (Nat → Int32)) (hi : Int32) (le : (Nat → Int32)) (ro : (Nat → Int32)) (re : (Nat → Int32)) (lm : Int32) (rm : Int32) (pl : Int32) (nu : (Nat → Int32)) (gi : (Nat → Int32)) (bg : (Nat → Int32)) (bm : Int32) (sd : Int32) (p1 : Int32) (res : Int32) (u_mm : (Nat → Int32)) (u_re : (Nat → Int32)) (h : M_X4_missed ss mm re p1 = some (res, u_mm, u_re)) : mI l yX4_missed wsX4_missed { frames := 8, cells := 0, slots := 0, locals := 175 } D cI [.ref (a 0), .int p1] (cM a cI ss mm im wa hi le ro re lm rm pl nu gi bg bm sd) (cM a cI ss u_mm im wa hi le ro u_re lm rm pl nu gi bg bm sd) res := by
  intro sz
  refine mStart (cc := cX4_missed) (maxL := 7) (ret := (some .int)) (own := RX4) (by decide) rfl rfl (Nat.le_of_ble_eq_true rfl) (lv := [(0, .ref (a 0)), (1, .int p1)]) rfl ?_
  intro p e s m args below meth c A ls Q H locs CF hr hlocks hK hP hD hS hA hAe hl hQ
  obtain ⟨hx, hb, hml, hown, hts⟩ := id CF
  have f9 := hts (.fieldLink RX4 9 "MendAnothersBreakingModel" "s" "[I") (List.mem_of_getElem? (i := 2) rfl)
  have f13 := hts (.fieldLink RX4 13 "MendAnothersBreakingModel" "m" "[I") (List.mem_of_getElem? (i := 3) rfl)
  have k40 := hts (.constant RX4 40 (1000000000)) (List.mem_of_getElem? (i := 1) rfl)
  have i4 : ∀ w ∈ wsX40, w ∈ wsX4_missed := fun w h => List.mem_cons_of_mem _ (List.mem_append_right _ h)
  have L27 : ∀ (n : Nat) (x1 : Int32) (re : (Nat → Int32)) (x3 : Int32) (x4 : Int32) (x5 : Int32) (mm : (Nat → Int32)), fuel (fun _ _ _ _ => none) (B_X4_missed_27 x1 ss re) n x3 x4 x5 mm = some (res, u_mm, u_re) → 
      ∀ (H : Heap) (locs : List Loc) (ls : Array Slot), va_P D vwCl (cM a cI ss mm im wa hi le ro re lm rm pl nu gi bg bm sd) H → va_D A (cM a cI ss mm im wa hi le ro re lm rm pl nu gi bg bm sd) → va_S A s.heap H locs → lv_has ls 7 [(0, .ref (a 0)), (1, .int x1), (3, .int x3), (4, .int x4), (5, .int x5)] → W p l e { frames := 8, cells := 0, slots := 0, locals := 175 } s m args below meth c H locs 0 0 Q (F0 m 27 ls []) := by
    intro n
    induction n with
    | zero =>
      intro x1 re x3 x4 x5 mm h
      exact nomatch (show (none : Option (Int32 × (Nat → Int32) × (Nat → Int32))) = some (res, u_mm, u_re) from h)
    | succ n ih =>
      intro x1 re x3 x4 x5 mm h  H locs ls hP hD hS hl
      replace h : B_X4_missed_27 x1 ss re (fuel (fun _ _ _ _ => none) (B_X4_missed_27 x1 ss re) n) x3 x4 x5 mm = some (res, u_mm, u_re) := h
      unfold B_X4_missed_27 at h
      refine lv_iload hx hb dX4_missed_27 (lv_at hl 4 rfl) ?_
      refine lv_aload_n hx hb dX4_missed_29 rfl (lv_at hl 0 rfl) ?_
      refine va_get (D := D) (ci := 4) (v := .ref (a 1)) (C := RX4) (T := TX4) (N := 16) hx hb hts i4 hown hK hP 0 rfl rfl 0 (by decide) f9 (fun _ h9 => h9) rfl dX4_missed_30 ?_
      refine lv_iconst (v := 0) hx hb dX4_missed_33 (by decide) ?_
      refine ald (n := 61) (f := ss) (k := 0) hx hb hK hP 1 0 rfl rfl (fx_lit rfl) rfl dX4_missed_34 ?_
      refine lv_icmp_ge (tgt := 87) hx hb dX4_missed_35 (by decide) (fun c35 => ?_) (fun c35 => ?_)
      · replace h := fx_ite_t c35 h
        refine lv_iload_n hx hb dX4_missed_87 rfl (lv_at hl 2 rfl) ?_
        obtain ⟨rfl, rfl, rfl⟩ := rtv3 h
        exact rI hQ hx hb hr hlocks hAe hP hS rfl rfl dX4_missed_88
      · replace h := fx_ite_f c35 h
        refine lv_aload_n hx hb dX4_missed_38 rfl (lv_at hl 0 rfl) ?_
        refine va_get (D := D) (ci := 4) (v := .ref (a 1)) (C := RX4) (T := TX4) (N := 16) hx hb hts i4 hown hK hP 0 rfl rfl 0 (by decide) f9 (fun _ h9 => h9) rfl dX4_missed_39 ?_
        refine lv_aload_n hx hb dX4_missed_42 rfl (lv_at hl 0 rfl) ?_
        refine va_get (D := D) (ci := 4) (v := .ref (a 2)) (C := RX4) (T := TX4) (N := 16) hx hb hts i4 hown hK hP 0 rfl rfl 1 (by decide) f13 (fun _ h9 => h9) rfl dX4_missed_43 ?_
        obtain ⟨u46_mm, q46, h⟩ := bnd1_inv h
        refine kSV (n := 2) (As := [.ref (a 1), .ref (a 2)]) (rest := []) CF hl hK hP hD hS hA (c_X4_copies l D cI (a 1) (a 2) ss mm  u46_mm q46) gX4_missed_X4_copies rfl dX4_missed_46 (by decide +kernel) ⟨⟨rfl, rfl⟩, ⟨Nat.le_of_ble_eq_true rfl, Nat.le_of_ble_eq_true rfl⟩, Nat.zero_le _, Nat.zero_le _⟩ (JN.sub (wst' := (cM a cI ss u46_mm im wa hi le ro re lm rm pl nu gi bg bm sd)) [1, 2] rfl rfl rfl rfl) rfl rfl (Nat.le_of_ble_eq_true rfl) (fun H locs hP hD hS => ?_)
        replace hP : va_P D vwCl (cM a cI ss u46_mm im wa hi le ro re lm rm pl nu gi bg bm sd) H := hP
        replace hD : va_D A (cM a cI ss u46_mm im wa hi le ro re lm rm pl nu gi bg bm sd) := hD
        refine lv_aload_n hx hb dX4_missed_49 rfl (lv_at hl 0 rfl) ?_
        refine va_get (D := D) (ci := 4) (v := .ref (a 2)) (C := RX4) (T := TX4) (N := 16) hx hb hts i4 hown hK hP 0 rfl rfl 1 (by decide) f13 (fun _ h9 => h9) rfl dX4_missed_50 ?_
        refine lv_iconst (v := 3) hx hb dX4_missed_53 (by decide) ?_
        refine lv_iload hx hb dX4_missed_54 (lv_at hl 4 rfl) ?_
        refine ast (n := 61) (f := u46_mm) (k := 3) hx hb hK hP hD hS 2 0 rfl rfl (fx_lit rfl) rfl dX4_missed_56 (fun H locs hP hD hS => ?_)
        replace hP : va_P D vwCl (cM a cI ss (upd u46_mm 3 x5) im wa hi le ro re lm rm pl nu gi bg bm sd) H := hP
        replace hD : va_D A (cM a cI ss (upd u46_mm 3 x5) im wa hi le ro re lm rm pl nu gi bg bm sd) := hD
        refine lv_aload_n hx hb dX4_missed_57 rfl (lv_at hl 0 rfl) ?_
        refine lv_iload_n hx hb dX4_missed_58 rfl (lv_at hl 1 rfl) ?_
        obtain ⟨r59, u59_mm, q59, h⟩ := bnd2_inv h
        refine kVI (n := 1) (As := [.int x1]) (rest := []) CF hl hK hP hD hS hA (c_X4_wholeBehind l D cI a ss (upd u46_mm 3 x5) im wa hi le ro re lm rm pl nu gi bg bm sd x1 r59 u59_mm q59) gX4_missed_X4_wholeBehind rfl dX4_missed_59 (by decide +kernel) ⟨⟨rfl, rfl⟩, ⟨Nat.le_of_ble_eq_true rfl, Nat.le_of_ble_eq_true rfl⟩, Nat.zero_le _, Nat.zero_le _⟩ (JN.whole (w1 := (cM a cI ss u59_mm im wa hi le ro re lm rm pl nu gi bg bm sd)) rfl) 0 rfl ⟨rfl, rfl⟩ rfl rfl (Nat.le_of_ble_eq_true rfl) (fun H locs hP hD hS => ?_)
        replace hP : va_P D vwCl (cM a cI ss u59_mm im wa hi le ro re lm rm pl nu gi bg bm sd) H := hP
        replace hD : va_D A (cM a cI ss u59_mm im wa hi le ro re lm rm pl nu gi bg bm sd) := hD
        refine lv_istore (lv' := [(6, .int r59), (0, .ref (a 0)), (1, .int x1), (3, .int x3), (4, .int x4), (5, .int x5)]) hx hb dX4_missed_62 hl (by decide) rfl (fun ls hl => ?_)
        refine lv_iload hx hb dX4_missed_64 (lv_at hl 0 rfl) ?_
        refine lv_iload hx hb dX4_missed_66 (lv_at hl 4 rfl) ?_
        refine lv_icmp_lt (tgt := 74) hx hb dX4_missed_68 (by decide) (fun c68 => ?_) (fun c68 => ?_)
        · replace h := fx_ite_t c68 h
          refine lv_iload hx hb dX4_missed_74 (lv_at hl 5 rfl) ?_
          refine lv_istore_n (lv' := [(3, .int x5), (6, .int r59), (0, .ref (a 0)), (1, .int x1), (4, .int x4), (5, .int x5)]) hx hb dX4_missed_76 rfl hl (by decide) rfl (fun ls hl => ?_)
          refine lv_iload hx hb dX4_missed_77 (lv_at hl 1 rfl) ?_
          refine lv_istore (lv' := [(4, .int r59), (3, .int x5), (6, .int r59), (0, .ref (a 0)), (1, .int x1), (5, .int x5)]) hx hb dX4_missed_79 hl (by decide) rfl (fun ls hl => ?_)
          refine lv_iinc (v := (x5 + 1)) (lv' := [(5, .int (x5 + 1)), (4, .int r59), (3, .int x5), (6, .int r59), (0, .ref (a 0)), (1, .int x1)]) hx hb dX4_missed_81 hl (k := 5) rfl (by first | rfl | decide) (by decide) rfl (fun ls hl => ?_)
          refine lv_goto (tgt := 27) hx hb dX4_missed_84 (by decide) ?_
          exact ih _ _ _ _ _ _ h  _ _ _ hP hD hS (lv_sub hl [4, 5, 2, 1, 0] rfl)
        · replace h := fx_ite_f c68 h
          refine lv_goto (tgt := 81) hx hb dX4_missed_71 (by decide) ?_
          refine lv_iinc (v := (x5 + 1)) (lv' := [(5, .int (x5 + 1)), (6, .int r59), (0, .ref (a 0)), (1, .int x1), (3, .int x3), (4, .int x4)]) hx hb dX4_missed_81 hl (k := 5) rfl (by first | rfl | decide) (by decide) rfl (fun ls hl => ?_)
          refine lv_goto (tgt := 27) hx hb dX4_missed_84 (by decide) ?_
          exact ih _ _ _ _ _ _ h  _ _ _ hP hD hS (lv_sub hl [2, 3, 4, 5, 0] rfl)
  unfold M_X4_missed at h
  refine lv_iload_n hx hb dX4_missed_0 rfl (lv_at hl 1 rfl) ?_
  refine lv_bipush (v := 99) hx hb dX4_missed_1 (by decide) ?_
  obtain ⟨r3, q3, h⟩ := bnd1_inv h
  refine kSI (n := 2) (As := [.int p1, .int (99 : Int32)]) (rest := []) CF hl hK hP hD hS hA (c_X4_wrongBy l D cI   p1 (99 : Int32) r3 q3) gX4_missed_X4_wrongBy rfl dX4_missed_3 (by decide +kernel) ⟨⟨rfl, rfl⟩, ⟨Nat.le_of_ble_eq_true rfl, Nat.le_of_ble_eq_true rfl⟩, Nat.zero_le _, Nat.zero_le _⟩ (JN.ro [] rfl rfl) rfl rfl (Nat.le_of_ble_eq_true rfl) (fun H locs hP hD hS => ?_)
  refine lv_istore_n (lv' := [(2, .int r3), (0, .ref (a 0)), (1, .int p1)]) hx hb dX4_missed_6 rfl hl (by decide) rfl (fun ls hl => ?_)
  refine lv_iload_n hx hb dX4_missed_7 rfl (lv_at hl 0 rfl) ?_
  refine lv_if_eq (tgt := 17) hx hb dX4_missed_8 (by decide) (fun c8 => ?_) (fun c8 => ?_)
  · replace h := fx_ite_t c8 h
    refine lv_bipush (v := (-9)) hx hb dX4_missed_17 (by decide) ?_
    refine lv_istore_n (lv' := [(3, .int (-9 : Int32)), (2, .int r3), (0, .ref (a 0)), (1, .int p1)]) hx hb dX4_missed_19 rfl hl (by decide) rfl (fun ls hl => ?_)
    refine lv_ldc (v := 1000000000) hx hb hown k40 dX4_missed_20 ?_
    refine lv_istore (lv' := [(4, .int (1000000000 : Int32)), (3, .int (-9 : Int32)), (2, .int r3), (0, .ref (a 0)), (1, .int p1)]) hx hb dX4_missed_22 hl (by decide) rfl (fun ls hl => ?_)
    refine lv_iconst (v := 0) hx hb dX4_missed_24 (by decide) ?_
    refine lv_istore (lv' := [(5, .int (0 : Int32)), (4, .int (1000000000 : Int32)), (3, .int (-9 : Int32)), (2, .int r3), (0, .ref (a 0)), (1, .int p1)]) hx hb dX4_missed_25 hl (by decide) rfl (fun ls hl => ?_)
    exact L27 FU _ _ _ _ _ _ h  _ _ _ hP hD hS (lv_sub hl [4, 5, 2, 1, 0] rfl)
  · replace h := fx_ite_f c8 h
    refine lv_aload_n hx hb dX4_missed_11 rfl (lv_at hl 1 rfl) ?_
    refine lv_iload_n hx hb dX4_missed_12 rfl (lv_at hl 0 rfl) ?_
    obtain ⟨r13, u13_re, q13, h⟩ := bnd2_inv h
    refine kVI (n := 1) (As := [.int r3]) (rest := []) CF hl hK hP hD hS hA (c_X4_no l D cI a ss mm im wa hi le ro re lm rm pl nu gi bg bm sd r3 r13 u13_re q13) gX4_missed_X4_no rfl dX4_missed_13 (by decide +kernel) ⟨⟨rfl, rfl⟩, ⟨Nat.le_of_ble_eq_true rfl, Nat.le_of_ble_eq_true rfl⟩, Nat.zero_le _, Nat.zero_le _⟩ (JN.whole (w1 := (cM a cI ss mm im wa hi le ro u13_re lm rm pl nu gi bg bm sd)) rfl) 0 rfl ⟨rfl, rfl⟩ rfl rfl (Nat.le_of_ble_eq_true rfl) (fun H locs hP hD hS => ?_)
    replace hP : va_P D vwCl (cM a cI ss mm im wa hi le ro u13_re lm rm pl nu gi bg bm sd) H := hP
    replace hD : va_D A (cM a cI ss mm im wa hi le ro u13_re lm rm pl nu gi bg bm sd) := hD
    obtain ⟨rfl, rfl, rfl⟩ := rtv3 h
    exact rI hQ hx hb hr hlocks hAe hP hS rfl rfl dX4_missed_16
/-! X4_hasBroken -/
set_option maxHeartbeats 4000000 in
set_option maxRecDepth 100000 in
theorem c_X4_hasBroken (l : Launch) (D : va_G) (cI : ClassId) (a : Nat → Nat) (ss : (Nat → Int32)) (mm : (Nat → Int32)) (im : (Nat → Int32)) (wa : (Nat → Int32)) (hi : Int32) (le : (Nat → Int32)) (ro : (Nat → Int32)) (re : (Nat → Int32)) (lm : Int32) (rm : Int32) (pl : Int32) (nu : (Nat → Int32)) (gi : (Nat → Int32)) (bg : (Nat → Int32)) (bm : Int32) (sd : Int32) (p1 : Int32) (p2 : Int32) (res : Int32) (h : M_X4_hasBroken ss p1 p2 = some res) : mI l yX4_hasBroken wsX4_hasBroken { frames := 1, cells := 0, slots := 0, locals := 20 } D cI [.ref (a 0), .int p1, .int p2] (cM a cI ss mm im wa hi le ro re lm rm pl nu gi bg bm sd) (cM a cI ss mm im wa hi le ro re lm rm pl nu gi bg bm sd) res := by
  intro sz
  refine mStart (cc := cX4_hasBroken) (maxL := 3) (ret := (some .boolean)) (own := RX4) (by decide) rfl rfl (Nat.le_of_ble_eq_true rfl) (lv := [(0, .ref (a 0)), (1, .int p1), (2, .int p2)]) rfl ?_
  intro p e s m args below meth c A ls Q H locs CF hr hlocks hK hP hD hS hA hAe hl hQ
  obtain ⟨hx, hb, hml, hown, hts⟩ := id CF
  have f9 := hts (.fieldLink RX4 9 "MendAnothersBreakingModel" "s" "[I") (List.mem_of_getElem? (i := 1) rfl)
  have i4 : ∀ w ∈ wsX40, w ∈ wsX4_hasBroken := fun w h => List.mem_cons_of_mem _ (List.mem_append_right _ h)
  unfold M_X4_hasBroken at h
  refine lv_aload_n hx hb dX4_hasBroken_0 rfl (lv_at hl 0 rfl) ?_
  refine va_get (D := D) (ci := 4) (v := .ref (a 1)) (C := RX4) (T := TX4) (N := 16) hx hb hts i4 hown hK hP 0 rfl rfl 0 (by decide) f9 (fun _ h9 => h9) rfl dX4_hasBroken_1 ?_
  refine lv_iload_n hx hb dX4_hasBroken_4 rfl (lv_at hl 2 rfl) ?_
  obtain ⟨r5, q5, h⟩ := bnd1_inv h
  refine kSI (n := 1) (As := [.int p2]) (rest := [.ref (a 1)]) CF hl hK hP hD hS hA (c_X4_ofT l D cI   p2 r5 q5) gX4_hasBroken_X4_ofT rfl dX4_hasBroken_5 (by decide +kernel) ⟨⟨rfl, rfl⟩, ⟨Nat.le_of_ble_eq_true rfl, Nat.le_of_ble_eq_true rfl⟩, Nat.zero_le _, Nat.zero_le _⟩ (JN.ro [] rfl rfl) rfl rfl (Nat.le_of_ble_eq_true rfl) (fun H locs hP hD hS => ?_)
  refine lv_iconst (v := 4) hx hb dX4_hasBroken_8 (by decide) ?_
  refine lv_iadd hx hb dX4_hasBroken_9 ?_
  obtain ⟨g10, h⟩ := chk_inv h
  refine va_iald (n := 61) (f := ss) hx hb hK hP 1 0 rfl rfl g10 dX4_hasBroken_10 ?_
  refine lv_iload_n hx hb dX4_hasBroken_11 rfl (lv_at hl 1 rfl) ?_
  refine lv_icmp_ne (tgt := 34) hx hb dX4_hasBroken_12 (by decide) (fun c12 => ?_) (fun c12 => ?_)
  · replace h := fx_ite_f c12 h
    refine lv_iconst (v := 0) hx hb dX4_hasBroken_34 (by decide) ?_
    obtain rfl := rtv1 h
    exact rI hQ hx hb hr hlocks hAe hP hS rfl rfl dX4_hasBroken_35
  · replace h := fx_ite_t c12 h
    refine lv_aload_n hx hb dX4_hasBroken_15 rfl (lv_at hl 0 rfl) ?_
    refine va_get (D := D) (ci := 4) (v := .ref (a 1)) (C := RX4) (T := TX4) (N := 16) hx hb hts i4 hown hK hP 0 rfl rfl 0 (by decide) f9 (fun _ h9 => h9) rfl dX4_hasBroken_16 ?_
    refine lv_iload_n hx hb dX4_hasBroken_19 rfl (lv_at hl 2 rfl) ?_
    obtain ⟨r20, q20, h⟩ := bnd1_inv h
    refine kSI (n := 1) (As := [.int p2]) (rest := [.ref (a 1)]) CF hl hK hP hD hS hA (c_X4_ofT l D cI   p2 r20 q20) gX4_hasBroken_X4_ofT rfl dX4_hasBroken_20 (by decide +kernel) ⟨⟨rfl, rfl⟩, ⟨Nat.le_of_ble_eq_true rfl, Nat.le_of_ble_eq_true rfl⟩, Nat.zero_le _, Nat.zero_le _⟩ (JN.ro [] rfl rfl) rfl rfl (Nat.le_of_ble_eq_true rfl) (fun H locs hP hD hS => ?_)
    refine lv_iconst (v := 2) hx hb dX4_hasBroken_23 (by decide) ?_
    refine lv_iadd hx hb dX4_hasBroken_24 ?_
    obtain ⟨g25, h⟩ := chk_inv h
    refine va_iald (n := 61) (f := ss) hx hb hK hP 1 0 rfl rfl g25 dX4_hasBroken_25 ?_
    refine lv_iload_n hx hb dX4_hasBroken_26 rfl (lv_at hl 1 rfl) ?_
    refine lv_icmp_eq (tgt := 34) hx hb dX4_hasBroken_27 (by decide) (fun c27 => ?_) (fun c27 => ?_)
    · replace h := fx_ite_t c27 h
      refine lv_iconst (v := 0) hx hb dX4_hasBroken_34 (by decide) ?_
      obtain rfl := rtv1 h
      exact rI hQ hx hb hr hlocks hAe hP hS rfl rfl dX4_hasBroken_35
    · replace h := fx_ite_f c27 h
      refine lv_iconst (v := 1) hx hb dX4_hasBroken_30 (by decide) ?_
      refine lv_goto (tgt := 35) hx hb dX4_hasBroken_31 (by decide) ?_
      obtain rfl := rtv1 h
      exact rI hQ hx hb hr hlocks hAe hP hS rfl rfl dX4_hasBroken_35
/-! X4_due -/
set_option maxHeartbeats 4000000 in
set_option maxRecDepth 100000 in
theorem c_X4_due (l : Launch) (D : va_G) (cI : ClassId) (a : Nat → Nat) (ss : (Nat → Int32)) (mm : (Nat → Int32)) (im : (Nat → Int32)) (wa : (Nat → Int32)) (hi : Int32) (le : (Nat → Int32)) (ro : (Nat → Int32)) (re : (Nat → Int32)) (lm : Int32) (rm : Int32) (pl : Int32) (nu : (Nat → Int32)) (gi : (Nat → Int32)) (bg : (Nat → Int32)) (bm : Int32) (sd : Int32) (p1 : Int32) (res : Int32) (u_re : (Nat → Int32)) (h : M_X4_due ss re p1 = some (res, u_re)) : mI l yX4_due wsX4_due { frames := 2, cells := 0, slots := 0, locals := 43 } D cI [.ref (a 0), .int p1] (cM a cI ss mm im wa hi le ro re lm rm pl nu gi bg bm sd) (cM a cI ss mm im wa hi le ro u_re lm rm pl nu gi bg bm sd) res := by
  intro sz
  refine mStart (cc := cX4_due) (maxL := 5) (ret := (some .int)) (own := RX4) (by decide) rfl rfl (Nat.le_of_ble_eq_true rfl) (lv := [(0, .ref (a 0)), (1, .int p1)]) rfl ?_
  intro p e s m args below meth c A ls Q H locs CF hr hlocks hK hP hD hS hA hAe hl hQ
  obtain ⟨hx, hb, hml, hown, hts⟩ := id CF
  have f9 := hts (.fieldLink RX4 9 "MendAnothersBreakingModel" "s" "[I") (List.mem_of_getElem? (i := 1) rfl)
  have i4 : ∀ w ∈ wsX40, w ∈ wsX4_due := fun w h => List.mem_cons_of_mem _ (List.mem_append_right _ h)
  have L18 : ∀ (n : Nat) (x1 : Int32) (re : (Nat → Int32)) (x2 : Int32) (x3 : Int32), fuel (fun _ _ => none) (B_X4_due_18 x1 ss re) n x2 x3 = some (res, u_re) → 
      ∀ (H : Heap) (locs : List Loc) (ls : Array Slot), va_P D vwCl (cM a cI ss mm im wa hi le ro re lm rm pl nu gi bg bm sd) H → va_D A (cM a cI ss mm im wa hi le ro re lm rm pl nu gi bg bm sd) → va_S A s.heap H locs → lv_has ls 5 [(0, .ref (a 0)), (1, .int x1), (2, .int x2), (3, .int x3)] → W p l e { frames := 2, cells := 0, slots := 0, locals := 43 } s m args below meth c H locs 0 0 Q (F0 m 18 ls []) := by
    intro n
    induction n with
    | zero =>
      intro x1 re x2 x3 h
      exact nomatch (show (none : Option (Int32 × (Nat → Int32))) = some (res, u_re) from h)
    | succ n ih =>
      intro x1 re x2 x3 h  H locs ls hP hD hS hl
      replace h : B_X4_due_18 x1 ss re (fuel (fun _ _ => none) (B_X4_due_18 x1 ss re) n) x2 x3 = some (res, u_re) := h
      unfold B_X4_due_18 at h
      refine lv_iload_n hx hb dX4_due_18 rfl (lv_at hl 3 rfl) ?_
      refine lv_aload_n hx hb dX4_due_19 rfl (lv_at hl 0 rfl) ?_
      refine va_get (D := D) (ci := 4) (v := .ref (a 1)) (C := RX4) (T := TX4) (N := 16) hx hb hts i4 hown hK hP 0 rfl rfl 0 (by decide) f9 (fun _ h9 => h9) rfl dX4_due_20 ?_
      refine lv_iconst (v := 1) hx hb dX4_due_23 (by decide) ?_
      refine ald (n := 61) (f := ss) (k := 1) hx hb hK hP 1 0 rfl rfl (fx_lit rfl) rfl dX4_due_24 ?_
      refine lv_icmp_ge (tgt := 98) hx hb dX4_due_25 (by decide) (fun c25 => ?_) (fun c25 => ?_)
      · replace h := fx_ite_t c25 h
        refine lv_iload_n hx hb dX4_due_98 rfl (lv_at hl 2 rfl) ?_
        obtain ⟨rfl, rfl⟩ := rtv2 h
        exact rI hQ hx hb hr hlocks hAe hP hS rfl rfl dX4_due_99
      · replace h := fx_ite_f c25 h
        refine lv_aload_n hx hb dX4_due_28 rfl (lv_at hl 0 rfl) ?_
        refine va_get (D := D) (ci := 4) (v := .ref (a 1)) (C := RX4) (T := TX4) (N := 16) hx hb hts i4 hown hK hP 0 rfl rfl 0 (by decide) f9 (fun _ h9 => h9) rfl dX4_due_29 ?_
        refine lv_iload_n hx hb dX4_due_32 rfl (lv_at hl 3 rfl) ?_
        obtain ⟨r33, q33, h⟩ := bnd1_inv h
        refine kSI (n := 1) (As := [.int x3]) (rest := [.ref (a 1)]) CF hl hK hP hD hS hA (c_X4_ofT l D cI   x3 r33 q33) gX4_due_X4_ofT rfl dX4_due_33 (by decide +kernel) ⟨⟨rfl, rfl⟩, ⟨Nat.le_of_ble_eq_true rfl, Nat.le_of_ble_eq_true rfl⟩, Nat.zero_le _, Nat.zero_le _⟩ (JN.ro [] rfl rfl) rfl rfl (Nat.le_of_ble_eq_true rfl) (fun H locs hP hD hS => ?_)
        refine lv_iconst (v := 4) hx hb dX4_due_36 (by decide) ?_
        refine lv_iadd hx hb dX4_due_37 ?_
        obtain ⟨g38, h⟩ := chk_inv h
        refine va_iald (n := 61) (f := ss) hx hb hK hP 1 0 rfl rfl g38 dX4_due_38 ?_
        refine lv_istore (lv' := [(4, .int (ss (Int32.toNatClampNeg (r33 + (4 : Int32))))), (0, .ref (a 0)), (1, .int x1), (2, .int x2), (3, .int x3)]) hx hb dX4_due_39 hl (by decide) rfl (fun ls hl => ?_)
        refine lv_iload_n hx hb dX4_due_41 rfl (lv_at hl 3 rfl) ?_
        refine lv_aload_n hx hb dX4_due_42 rfl (lv_at hl 1 rfl) ?_
        refine lv_iload_n hx hb dX4_due_43 rfl (lv_at hl 2 rfl) ?_
        refine lv_iload_n hx hb dX4_due_44 rfl (lv_at hl 4 rfl) ?_
        obtain ⟨r45, q45, h⟩ := bnd1_inv h
        refine kVI (n := 2) (As := [.int x1, .int x3]) (rest := [.int x2]) CF hl hK hP hD hS hA (c_X4_hasBroken l D cI a ss mm im wa hi le ro re lm rm pl nu gi bg bm sd x1 x3 r45 q45) gX4_due_X4_hasBroken rfl dX4_due_45 (by decide +kernel) ⟨⟨rfl, rfl⟩, ⟨Nat.le_of_ble_eq_true rfl, Nat.le_of_ble_eq_true rfl⟩, Nat.zero_le _, Nat.zero_le _⟩ (JN.whole rfl) 0 rfl ⟨rfl, rfl⟩ rfl rfl (Nat.le_of_ble_eq_true rfl) (fun H locs hP hD hS => ?_)
        replace hP : va_P D vwCl (cM a cI ss mm im wa hi le ro re lm rm pl nu gi bg bm sd) H := hP
        replace hD : va_D A (cM a cI ss mm im wa hi le ro re lm rm pl nu gi bg bm sd) := hD
        refine lv_if_eq (tgt := 55) hx hb dX4_due_48 (by decide) (fun c48 => ?_) (fun c48 => ?_)
        · replace h := fx_ite_t c48 h
          refine lv_iconst (v := 0) hx hb dX4_due_55 (by decide) ?_
          refine lv_iadd hx hb dX4_due_56 ?_
          refine lv_istore_n (lv' := [(2, .int (x2 + (0 : Int32))), (4, .int (ss (Int32.toNatClampNeg (r33 + (4 : Int32))))), (0, .ref (a 0)), (1, .int x1), (3, .int x3)]) hx hb dX4_due_57 rfl hl (by decide) rfl (fun ls hl => ?_)
          refine lv_iload_n hx hb dX4_due_58 rfl (lv_at hl 0 rfl) ?_
          refine lv_aload_n hx hb dX4_due_59 rfl (lv_at hl 2 rfl) ?_
          refine va_get (D := D) (ci := 4) (v := .ref (a 1)) (C := RX4) (T := TX4) (N := 16) hx hb hts i4 hown hK hP 0 rfl rfl 0 (by decide) f9 (fun _ h9 => h9) rfl dX4_due_60 ?_
          refine lv_iload_n hx hb dX4_due_63 rfl (lv_at hl 4 rfl) ?_
          obtain ⟨r64, q64, h⟩ := bnd1_inv h
          refine kSI (n := 1) (As := [.int x3]) (rest := [.ref (a 1), .int (x2 + (0 : Int32))]) CF hl hK hP hD hS hA (c_X4_ofT l D cI   x3 r64 q64) gX4_due_X4_ofT rfl dX4_due_64 (by decide +kernel) ⟨⟨rfl, rfl⟩, ⟨Nat.le_of_ble_eq_true rfl, Nat.le_of_ble_eq_true rfl⟩, Nat.zero_le _, Nat.zero_le _⟩ (JN.ro [] rfl rfl) rfl rfl (Nat.le_of_ble_eq_true rfl) (fun H locs hP hD hS => ?_)
          refine lv_iconst (v := 2) hx hb dX4_due_67 (by decide) ?_
          refine lv_iadd hx hb dX4_due_68 ?_
          obtain ⟨g69, h⟩ := chk_inv h
          refine va_iald (n := 61) (f := ss) hx hb hK hP 1 0 rfl rfl g69 dX4_due_69 ?_
          refine lv_iload_n hx hb dX4_due_70 rfl (lv_at hl 3 rfl) ?_
          refine lv_icmp_ne (tgt := 89) hx hb dX4_due_71 (by decide) (fun c71 => ?_) (fun c71 => ?_)
          · replace h := fx_ite_f c71 h
            refine lv_iconst (v := 0) hx hb dX4_due_89 (by decide) ?_
            refine lv_isub hx hb dX4_due_90 ?_
            refine lv_istore_n (lv' := [(2, .int ((x2 + (0 : Int32)) - (0 : Int32))), (4, .int (ss (Int32.toNatClampNeg (r33 + (4 : Int32))))), (0, .ref (a 0)), (1, .int x1), (3, .int x3)]) hx hb dX4_due_91 rfl hl (by decide) rfl (fun ls hl => ?_)
            refine lv_iinc (v := (x3 + 1)) (lv' := [(3, .int (x3 + 1)), (2, .int ((x2 + (0 : Int32)) - (0 : Int32))), (4, .int (ss (Int32.toNatClampNeg (r33 + (4 : Int32))))), (0, .ref (a 0)), (1, .int x1)]) hx hb dX4_due_92 hl (k := 4) rfl (by first | rfl | decide) (by decide) rfl (fun ls hl => ?_)
            refine lv_goto (tgt := 18) hx hb dX4_due_95 (by decide) ?_
            exact ih _ _ _ _ h  _ _ _ hP hD hS (lv_sub hl [3, 4, 1, 0] rfl)
          · replace h := fx_ite_t c71 h
            refine lv_iload hx hb dX4_due_74 (lv_at hl 1 rfl) ?_
            refine lv_if_lt (tgt := 89) hx hb dX4_due_76 (by decide) (fun c76 => ?_) (fun c76 => ?_)
            · replace h := fx_ite_t c76 h
              refine lv_iconst (v := 0) hx hb dX4_due_89 (by decide) ?_
              refine lv_isub hx hb dX4_due_90 ?_
              refine lv_istore_n (lv' := [(2, .int ((x2 + (0 : Int32)) - (0 : Int32))), (4, .int (ss (Int32.toNatClampNeg (r33 + (4 : Int32))))), (0, .ref (a 0)), (1, .int x1), (3, .int x3)]) hx hb dX4_due_91 rfl hl (by decide) rfl (fun ls hl => ?_)
              refine lv_iinc (v := (x3 + 1)) (lv' := [(3, .int (x3 + 1)), (2, .int ((x2 + (0 : Int32)) - (0 : Int32))), (4, .int (ss (Int32.toNatClampNeg (r33 + (4 : Int32))))), (0, .ref (a 0)), (1, .int x1)]) hx hb dX4_due_92 hl (k := 4) rfl (by first | rfl | decide) (by decide) rfl (fun ls hl => ?_)
              refine lv_goto (tgt := 18) hx hb dX4_due_95 (by decide) ?_
              exact ih _ _ _ _ h  _ _ _ hP hD hS (lv_sub hl [3, 4, 1, 0] rfl)
            · replace h := fx_ite_f c76 h
              refine lv_iload hx hb dX4_due_79 (lv_at hl 1 rfl) ?_
              refine lv_iload_n hx hb dX4_due_81 rfl (lv_at hl 3 rfl) ?_
              refine lv_icmp_eq (tgt := 89) hx hb dX4_due_82 (by decide) (fun c82 => ?_) (fun c82 => ?_)
              · replace h := fx_ite_t c82 h
                refine lv_iconst (v := 0) hx hb dX4_due_89 (by decide) ?_
                refine lv_isub hx hb dX4_due_90 ?_
                refine lv_istore_n (lv' := [(2, .int ((x2 + (0 : Int32)) - (0 : Int32))), (4, .int (ss (Int32.toNatClampNeg (r33 + (4 : Int32))))), (0, .ref (a 0)), (1, .int x1), (3, .int x3)]) hx hb dX4_due_91 rfl hl (by decide) rfl (fun ls hl => ?_)
                refine lv_iinc (v := (x3 + 1)) (lv' := [(3, .int (x3 + 1)), (2, .int ((x2 + (0 : Int32)) - (0 : Int32))), (4, .int (ss (Int32.toNatClampNeg (r33 + (4 : Int32))))), (0, .ref (a 0)), (1, .int x1)]) hx hb dX4_due_92 hl (k := 4) rfl (by first | rfl | decide) (by decide) rfl (fun ls hl => ?_)
                refine lv_goto (tgt := 18) hx hb dX4_due_95 (by decide) ?_
                exact ih _ _ _ _ h  _ _ _ hP hD hS (lv_sub hl [3, 4, 1, 0] rfl)
              · replace h := fx_ite_f c82 h
                refine lv_iconst (v := 1) hx hb dX4_due_85 (by decide) ?_
                refine lv_goto (tgt := 90) hx hb dX4_due_86 (by decide) ?_
                refine lv_isub hx hb dX4_due_90 ?_
                refine lv_istore_n (lv' := [(2, .int ((x2 + (0 : Int32)) - (1 : Int32))), (4, .int (ss (Int32.toNatClampNeg (r33 + (4 : Int32))))), (0, .ref (a 0)), (1, .int x1), (3, .int x3)]) hx hb dX4_due_91 rfl hl (by decide) rfl (fun ls hl => ?_)
                refine lv_iinc (v := (x3 + 1)) (lv' := [(3, .int (x3 + 1)), (2, .int ((x2 + (0 : Int32)) - (1 : Int32))), (4, .int (ss (Int32.toNatClampNeg (r33 + (4 : Int32))))), (0, .ref (a 0)), (1, .int x1)]) hx hb dX4_due_92 hl (k := 4) rfl (by first | rfl | decide) (by decide) rfl (fun ls hl => ?_)
                refine lv_goto (tgt := 18) hx hb dX4_due_95 (by decide) ?_
                exact ih _ _ _ _ h  _ _ _ hP hD hS (lv_sub hl [3, 4, 1, 0] rfl)
        · replace h := fx_ite_f c48 h
          refine lv_iconst (v := 1) hx hb dX4_due_51 (by decide) ?_
          refine lv_goto (tgt := 56) hx hb dX4_due_52 (by decide) ?_
          refine lv_iadd hx hb dX4_due_56 ?_
          refine lv_istore_n (lv' := [(2, .int (x2 + (1 : Int32))), (4, .int (ss (Int32.toNatClampNeg (r33 + (4 : Int32))))), (0, .ref (a 0)), (1, .int x1), (3, .int x3)]) hx hb dX4_due_57 rfl hl (by decide) rfl (fun ls hl => ?_)
          refine lv_iload_n hx hb dX4_due_58 rfl (lv_at hl 0 rfl) ?_
          refine lv_aload_n hx hb dX4_due_59 rfl (lv_at hl 2 rfl) ?_
          refine va_get (D := D) (ci := 4) (v := .ref (a 1)) (C := RX4) (T := TX4) (N := 16) hx hb hts i4 hown hK hP 0 rfl rfl 0 (by decide) f9 (fun _ h9 => h9) rfl dX4_due_60 ?_
          refine lv_iload_n hx hb dX4_due_63 rfl (lv_at hl 4 rfl) ?_
          obtain ⟨r64, q64, h⟩ := bnd1_inv h
          refine kSI (n := 1) (As := [.int x3]) (rest := [.ref (a 1), .int (x2 + (1 : Int32))]) CF hl hK hP hD hS hA (c_X4_ofT l D cI   x3 r64 q64) gX4_due_X4_ofT rfl dX4_due_64 (by decide +kernel) ⟨⟨rfl, rfl⟩, ⟨Nat.le_of_ble_eq_true rfl, Nat.le_of_ble_eq_true rfl⟩, Nat.zero_le _, Nat.zero_le _⟩ (JN.ro [] rfl rfl) rfl rfl (Nat.le_of_ble_eq_true rfl) (fun H locs hP hD hS => ?_)
          refine lv_iconst (v := 2) hx hb dX4_due_67 (by decide) ?_
          refine lv_iadd hx hb dX4_due_68 ?_
          obtain ⟨g69, h⟩ := chk_inv h
          refine va_iald (n := 61) (f := ss) hx hb hK hP 1 0 rfl rfl g69 dX4_due_69 ?_
          refine lv_iload_n hx hb dX4_due_70 rfl (lv_at hl 3 rfl) ?_
          refine lv_icmp_ne (tgt := 89) hx hb dX4_due_71 (by decide) (fun c71 => ?_) (fun c71 => ?_)
          · replace h := fx_ite_f c71 h
            refine lv_iconst (v := 0) hx hb dX4_due_89 (by decide) ?_
            refine lv_isub hx hb dX4_due_90 ?_
            refine lv_istore_n (lv' := [(2, .int ((x2 + (1 : Int32)) - (0 : Int32))), (4, .int (ss (Int32.toNatClampNeg (r33 + (4 : Int32))))), (0, .ref (a 0)), (1, .int x1), (3, .int x3)]) hx hb dX4_due_91 rfl hl (by decide) rfl (fun ls hl => ?_)
            refine lv_iinc (v := (x3 + 1)) (lv' := [(3, .int (x3 + 1)), (2, .int ((x2 + (1 : Int32)) - (0 : Int32))), (4, .int (ss (Int32.toNatClampNeg (r33 + (4 : Int32))))), (0, .ref (a 0)), (1, .int x1)]) hx hb dX4_due_92 hl (k := 4) rfl (by first | rfl | decide) (by decide) rfl (fun ls hl => ?_)
            refine lv_goto (tgt := 18) hx hb dX4_due_95 (by decide) ?_
            exact ih _ _ _ _ h  _ _ _ hP hD hS (lv_sub hl [3, 4, 1, 0] rfl)
          · replace h := fx_ite_t c71 h
            refine lv_iload hx hb dX4_due_74 (lv_at hl 1 rfl) ?_
            refine lv_if_lt (tgt := 89) hx hb dX4_due_76 (by decide) (fun c76 => ?_) (fun c76 => ?_)
            · replace h := fx_ite_t c76 h
              refine lv_iconst (v := 0) hx hb dX4_due_89 (by decide) ?_
              refine lv_isub hx hb dX4_due_90 ?_
              refine lv_istore_n (lv' := [(2, .int ((x2 + (1 : Int32)) - (0 : Int32))), (4, .int (ss (Int32.toNatClampNeg (r33 + (4 : Int32))))), (0, .ref (a 0)), (1, .int x1), (3, .int x3)]) hx hb dX4_due_91 rfl hl (by decide) rfl (fun ls hl => ?_)
              refine lv_iinc (v := (x3 + 1)) (lv' := [(3, .int (x3 + 1)), (2, .int ((x2 + (1 : Int32)) - (0 : Int32))), (4, .int (ss (Int32.toNatClampNeg (r33 + (4 : Int32))))), (0, .ref (a 0)), (1, .int x1)]) hx hb dX4_due_92 hl (k := 4) rfl (by first | rfl | decide) (by decide) rfl (fun ls hl => ?_)
              refine lv_goto (tgt := 18) hx hb dX4_due_95 (by decide) ?_
              exact ih _ _ _ _ h  _ _ _ hP hD hS (lv_sub hl [3, 4, 1, 0] rfl)
            · replace h := fx_ite_f c76 h
              refine lv_iload hx hb dX4_due_79 (lv_at hl 1 rfl) ?_
              refine lv_iload_n hx hb dX4_due_81 rfl (lv_at hl 3 rfl) ?_
              refine lv_icmp_eq (tgt := 89) hx hb dX4_due_82 (by decide) (fun c82 => ?_) (fun c82 => ?_)
              · replace h := fx_ite_t c82 h
                refine lv_iconst (v := 0) hx hb dX4_due_89 (by decide) ?_
                refine lv_isub hx hb dX4_due_90 ?_
                refine lv_istore_n (lv' := [(2, .int ((x2 + (1 : Int32)) - (0 : Int32))), (4, .int (ss (Int32.toNatClampNeg (r33 + (4 : Int32))))), (0, .ref (a 0)), (1, .int x1), (3, .int x3)]) hx hb dX4_due_91 rfl hl (by decide) rfl (fun ls hl => ?_)
                refine lv_iinc (v := (x3 + 1)) (lv' := [(3, .int (x3 + 1)), (2, .int ((x2 + (1 : Int32)) - (0 : Int32))), (4, .int (ss (Int32.toNatClampNeg (r33 + (4 : Int32))))), (0, .ref (a 0)), (1, .int x1)]) hx hb dX4_due_92 hl (k := 4) rfl (by first | rfl | decide) (by decide) rfl (fun ls hl => ?_)
                refine lv_goto (tgt := 18) hx hb dX4_due_95 (by decide) ?_
                exact ih _ _ _ _ h  _ _ _ hP hD hS (lv_sub hl [3, 4, 1, 0] rfl)
              · replace h := fx_ite_f c82 h
                refine lv_iconst (v := 1) hx hb dX4_due_85 (by decide) ?_
                refine lv_goto (tgt := 90) hx hb dX4_due_86 (by decide) ?_
                refine lv_isub hx hb dX4_due_90 ?_
                refine lv_istore_n (lv' := [(2, .int ((x2 + (1 : Int32)) - (1 : Int32))), (4, .int (ss (Int32.toNatClampNeg (r33 + (4 : Int32))))), (0, .ref (a 0)), (1, .int x1), (3, .int x3)]) hx hb dX4_due_91 rfl hl (by decide) rfl (fun ls hl => ?_)
                refine lv_iinc (v := (x3 + 1)) (lv' := [(3, .int (x3 + 1)), (2, .int ((x2 + (1 : Int32)) - (1 : Int32))), (4, .int (ss (Int32.toNatClampNeg (r33 + (4 : Int32))))), (0, .ref (a 0)), (1, .int x1)]) hx hb dX4_due_92 hl (k := 4) rfl (by first | rfl | decide) (by decide) rfl (fun ls hl => ?_)
                refine lv_goto (tgt := 18) hx hb dX4_due_95 (by decide) ?_
                exact ih _ _ _ _ h  _ _ _ hP hD hS (lv_sub hl [3, 4, 1, 0] rfl)
  unfold M_X4_due at h
  refine lv_aload_n hx hb dX4_due_0 rfl (lv_at hl 0 rfl) ?_
  refine lv_iload_n hx hb dX4_due_1 rfl (lv_at hl 1 rfl) ?_
  obtain ⟨r2, q2, h⟩ := bnd1_inv h
  refine kVI (n := 1) (As := [.int p1]) (rest := []) CF hl hK hP hD hS hA (c_X4_isPerson l D cI a ss mm im wa hi le ro re lm rm pl nu gi bg bm sd p1 r2 q2) gX4_due_X4_isPerson rfl dX4_due_2 (by decide +kernel) ⟨⟨rfl, rfl⟩, ⟨Nat.le_of_ble_eq_true rfl, Nat.le_of_ble_eq_true rfl⟩, Nat.zero_le _, Nat.zero_le _⟩ (JN.whole rfl) 0 rfl ⟨rfl, rfl⟩ rfl rfl (Nat.le_of_ble_eq_true rfl) (fun H locs hP hD hS => ?_)
  replace hP : va_P D vwCl (cM a cI ss mm im wa hi le ro re lm rm pl nu gi bg bm sd) H := hP
  replace hD : va_D A (cM a cI ss mm im wa hi le ro re lm rm pl nu gi bg bm sd) := hD
  refine lv_if_ne (tgt := 14) hx hb dX4_due_5 (by decide) (fun c5 => ?_) (fun c5 => ?_)
  · replace h := fx_ite_f c5 h
    refine lv_iconst (v := 0) hx hb dX4_due_14 (by decide) ?_
    refine lv_istore_n (lv' := [(2, .int (0 : Int32)), (0, .ref (a 0)), (1, .int p1)]) hx hb dX4_due_15 rfl hl (by decide) rfl (fun ls hl => ?_)
    refine lv_iconst (v := 0) hx hb dX4_due_16 (by decide) ?_
    refine lv_istore_n (lv' := [(3, .int (0 : Int32)), (2, .int (0 : Int32)), (0, .ref (a 0)), (1, .int p1)]) hx hb dX4_due_17 rfl hl (by decide) rfl (fun ls hl => ?_)
    exact L18 FU _ _ _ _ h  _ _ _ hP hD hS (lv_sub hl [2, 3, 1, 0] rfl)
  · replace h := fx_ite_t c5 h
    refine lv_aload_n hx hb dX4_due_8 rfl (lv_at hl 0 rfl) ?_
    refine lv_iconst (v := (-1)) hx hb dX4_due_9 (by decide) ?_
    obtain ⟨r10, u10_re, q10, h⟩ := bnd2_inv h
    refine kVI (n := 1) (As := [.int (-1 : Int32)]) (rest := []) CF hl hK hP hD hS hA (c_X4_noFar l D cI a ss mm im wa hi le ro re lm rm pl nu gi bg bm sd (-1 : Int32) r10 u10_re q10) gX4_due_X4_noFar rfl dX4_due_10 (by decide +kernel) ⟨⟨rfl, rfl⟩, ⟨Nat.le_of_ble_eq_true rfl, Nat.le_of_ble_eq_true rfl⟩, Nat.zero_le _, Nat.zero_le _⟩ (JN.whole (w1 := (cM a cI ss mm im wa hi le ro u10_re lm rm pl nu gi bg bm sd)) rfl) 0 rfl ⟨rfl, rfl⟩ rfl rfl (Nat.le_of_ble_eq_true rfl) (fun H locs hP hD hS => ?_)
    replace hP : va_P D vwCl (cM a cI ss mm im wa hi le ro u10_re lm rm pl nu gi bg bm sd) H := hP
    replace hD : va_D A (cM a cI ss mm im wa hi le ro u10_re lm rm pl nu gi bg bm sd) := hD
    obtain ⟨rfl, rfl⟩ := rtv2 h
    exact rI hQ hx hb hr hlocks hAe hP hS rfl rfl dX4_due_13
/-! X4_breakerOf -/
set_option maxHeartbeats 4000000 in
set_option maxRecDepth 100000 in
theorem c_X4_breakerOf (l : Launch) (D : va_G) (cI : ClassId) (a : Nat → Nat) (ss : (Nat → Int32)) (mm : (Nat → Int32)) (im : (Nat → Int32)) (wa : (Nat → Int32)) (hi : Int32) (le : (Nat → Int32)) (ro : (Nat → Int32)) (re : (Nat → Int32)) (lm : Int32) (rm : Int32) (pl : Int32) (nu : (Nat → Int32)) (gi : (Nat → Int32)) (bg : (Nat → Int32)) (bm : Int32) (sd : Int32) (p1 : Int32) (res : Int32) (h : M_X4_breakerOf ss p1 = some res) : mI l yX4_breakerOf wsX4_breakerOf { frames := 1, cells := 0, slots := 0, locals := 20 } D cI [.ref (a 0), .int p1] (cM a cI ss mm im wa hi le ro re lm rm pl nu gi bg bm sd) (cM a cI ss mm im wa hi le ro re lm rm pl nu gi bg bm sd) res := by
  intro sz
  refine mStart (cc := cX4_breakerOf) (maxL := 3) (ret := (some .int)) (own := RX4) (by decide) rfl rfl (Nat.le_of_ble_eq_true rfl) (lv := [(0, .ref (a 0)), (1, .int p1)]) rfl ?_
  intro p e s m args below meth c A ls Q H locs CF hr hlocks hK hP hD hS hA hAe hl hQ
  obtain ⟨hx, hb, hml, hown, hts⟩ := id CF
  have f9 := hts (.fieldLink RX4 9 "MendAnothersBreakingModel" "s" "[I") (List.mem_of_getElem? (i := 1) rfl)
  have i4 : ∀ w ∈ wsX40, w ∈ wsX4_breakerOf := fun w h => List.mem_cons_of_mem _ (List.mem_append_right _ h)
  have L2 : ∀ (n : Nat) (x1 : Int32) (x2 : Int32), fuel (fun _ => none) (B_X4_breakerOf_2 x1 ss) n x2 = some res → 
      ∀ (H : Heap) (locs : List Loc) (ls : Array Slot), va_P D vwCl (cM a cI ss mm im wa hi le ro re lm rm pl nu gi bg bm sd) H → va_D A (cM a cI ss mm im wa hi le ro re lm rm pl nu gi bg bm sd) → va_S A s.heap H locs → lv_has ls 3 [(0, .ref (a 0)), (1, .int x1), (2, .int x2)] → W p l e { frames := 1, cells := 0, slots := 0, locals := 20 } s m args below meth c H locs 0 0 Q (F0 m 2 ls []) := by
    intro n
    induction n with
    | zero =>
      intro x1 x2 h
      exact nomatch (show (none : Option (Int32)) = some res from h)
    | succ n ih =>
      intro x1 x2 h  H locs ls hP hD hS hl
      replace h : B_X4_breakerOf_2 x1 ss (fuel (fun _ => none) (B_X4_breakerOf_2 x1 ss) n) x2 = some res := h
      unfold B_X4_breakerOf_2 at h
      refine lv_iload_n hx hb dX4_breakerOf_2 rfl (lv_at hl 2 rfl) ?_
      refine lv_aload_n hx hb dX4_breakerOf_3 rfl (lv_at hl 0 rfl) ?_
      refine va_get (D := D) (ci := 4) (v := .ref (a 1)) (C := RX4) (T := TX4) (N := 16) hx hb hts i4 hown hK hP 0 rfl rfl 0 (by decide) f9 (fun _ h9 => h9) rfl dX4_breakerOf_4 ?_
      refine lv_iconst (v := 1) hx hb dX4_breakerOf_7 (by decide) ?_
      refine ald (n := 61) (f := ss) (k := 1) hx hb hK hP 1 0 rfl rfl (fx_lit rfl) rfl dX4_breakerOf_8 ?_
      refine lv_icmp_ge (tgt := 74) hx hb dX4_breakerOf_9 (by decide) (fun c9 => ?_) (fun c9 => ?_)
      · replace h := fx_ite_t c9 h
        refine lv_bipush (v := (-9)) hx hb dX4_breakerOf_74 (by decide) ?_
        obtain rfl := rtv1 h
        exact rI hQ hx hb hr hlocks hAe hP hS rfl rfl dX4_breakerOf_76
      · replace h := fx_ite_f c9 h
        refine lv_aload_n hx hb dX4_breakerOf_12 rfl (lv_at hl 0 rfl) ?_
        refine va_get (D := D) (ci := 4) (v := .ref (a 1)) (C := RX4) (T := TX4) (N := 16) hx hb hts i4 hown hK hP 0 rfl rfl 0 (by decide) f9 (fun _ h9 => h9) rfl dX4_breakerOf_13 ?_
        refine lv_iload_n hx hb dX4_breakerOf_16 rfl (lv_at hl 2 rfl) ?_
        obtain ⟨r17, q17, h⟩ := bnd1_inv h
        refine kSI (n := 1) (As := [.int x2]) (rest := [.ref (a 1)]) CF hl hK hP hD hS hA (c_X4_ofT l D cI   x2 r17 q17) gX4_breakerOf_X4_ofT rfl dX4_breakerOf_17 (by decide +kernel) ⟨⟨rfl, rfl⟩, ⟨Nat.le_of_ble_eq_true rfl, Nat.le_of_ble_eq_true rfl⟩, Nat.zero_le _, Nat.zero_le _⟩ (JN.ro [] rfl rfl) rfl rfl (Nat.le_of_ble_eq_true rfl) (fun H locs hP hD hS => ?_)
        refine lv_iconst (v := 2) hx hb dX4_breakerOf_20 (by decide) ?_
        refine lv_iadd hx hb dX4_breakerOf_21 ?_
        obtain ⟨g22, h⟩ := chk_inv h
        refine va_iald (n := 61) (f := ss) hx hb hK hP 1 0 rfl rfl g22 dX4_breakerOf_22 ?_
        refine lv_iload_n hx hb dX4_breakerOf_23 rfl (lv_at hl 1 rfl) ?_
        refine lv_icmp_ne (tgt := 68) hx hb dX4_breakerOf_24 (by decide) (fun c24 => ?_) (fun c24 => ?_)
        · replace h := fx_ite_f c24 h
          refine lv_iinc (v := (x2 + 1)) (lv' := [(2, .int (x2 + 1)), (0, .ref (a 0)), (1, .int x1)]) hx hb dX4_breakerOf_68 hl (k := 2) rfl (by first | rfl | decide) (by decide) rfl (fun ls hl => ?_)
          refine lv_goto (tgt := 2) hx hb dX4_breakerOf_71 (by decide) ?_
          exact ih _ _ h  _ _ _ hP hD hS (lv_sub hl [1, 2, 0] rfl)
        · replace h := fx_ite_t c24 h
          refine lv_aload_n hx hb dX4_breakerOf_27 rfl (lv_at hl 0 rfl) ?_
          refine va_get (D := D) (ci := 4) (v := .ref (a 1)) (C := RX4) (T := TX4) (N := 16) hx hb hts i4 hown hK hP 0 rfl rfl 0 (by decide) f9 (fun _ h9 => h9) rfl dX4_breakerOf_28 ?_
          refine lv_iload_n hx hb dX4_breakerOf_31 rfl (lv_at hl 2 rfl) ?_
          obtain ⟨r32, q32, h⟩ := bnd1_inv h
          refine kSI (n := 1) (As := [.int x2]) (rest := [.ref (a 1)]) CF hl hK hP hD hS hA (c_X4_ofT l D cI   x2 r32 q32) gX4_breakerOf_X4_ofT rfl dX4_breakerOf_32 (by decide +kernel) ⟨⟨rfl, rfl⟩, ⟨Nat.le_of_ble_eq_true rfl, Nat.le_of_ble_eq_true rfl⟩, Nat.zero_le _, Nat.zero_le _⟩ (JN.ro [] rfl rfl) rfl rfl (Nat.le_of_ble_eq_true rfl) (fun H locs hP hD hS => ?_)
          refine lv_iconst (v := 4) hx hb dX4_breakerOf_35 (by decide) ?_
          refine lv_iadd hx hb dX4_breakerOf_36 ?_
          obtain ⟨g37, h⟩ := chk_inv h
          refine va_iald (n := 61) (f := ss) hx hb hK hP 1 0 rfl rfl g37 dX4_breakerOf_37 ?_
          refine lv_if_lt (tgt := 68) hx hb dX4_breakerOf_38 (by decide) (fun c38 => ?_) (fun c38 => ?_)
          · replace h := fx_ite_t c38 h
            refine lv_iinc (v := (x2 + 1)) (lv' := [(2, .int (x2 + 1)), (0, .ref (a 0)), (1, .int x1)]) hx hb dX4_breakerOf_68 hl (k := 2) rfl (by first | rfl | decide) (by decide) rfl (fun ls hl => ?_)
            refine lv_goto (tgt := 2) hx hb dX4_breakerOf_71 (by decide) ?_
            exact ih _ _ h  _ _ _ hP hD hS (lv_sub hl [1, 2, 0] rfl)
          · replace h := fx_ite_f c38 h
            refine lv_aload_n hx hb dX4_breakerOf_41 rfl (lv_at hl 0 rfl) ?_
            refine va_get (D := D) (ci := 4) (v := .ref (a 1)) (C := RX4) (T := TX4) (N := 16) hx hb hts i4 hown hK hP 0 rfl rfl 0 (by decide) f9 (fun _ h9 => h9) rfl dX4_breakerOf_42 ?_
            refine lv_iload_n hx hb dX4_breakerOf_45 rfl (lv_at hl 2 rfl) ?_
            obtain ⟨r46, q46, h⟩ := bnd1_inv h
            refine kSI (n := 1) (As := [.int x2]) (rest := [.ref (a 1)]) CF hl hK hP hD hS hA (c_X4_ofT l D cI   x2 r46 q46) gX4_breakerOf_X4_ofT rfl dX4_breakerOf_46 (by decide +kernel) ⟨⟨rfl, rfl⟩, ⟨Nat.le_of_ble_eq_true rfl, Nat.le_of_ble_eq_true rfl⟩, Nat.zero_le _, Nat.zero_le _⟩ (JN.ro [] rfl rfl) rfl rfl (Nat.le_of_ble_eq_true rfl) (fun H locs hP hD hS => ?_)
            refine lv_iconst (v := 4) hx hb dX4_breakerOf_49 (by decide) ?_
            refine lv_iadd hx hb dX4_breakerOf_50 ?_
            obtain ⟨g51, h⟩ := chk_inv h
            refine va_iald (n := 61) (f := ss) hx hb hK hP 1 0 rfl rfl g51 dX4_breakerOf_51 ?_
            refine lv_iload_n hx hb dX4_breakerOf_52 rfl (lv_at hl 1 rfl) ?_
            refine lv_icmp_eq (tgt := 68) hx hb dX4_breakerOf_53 (by decide) (fun c53 => ?_) (fun c53 => ?_)
            · replace h := fx_ite_t c53 h
              refine lv_iinc (v := (x2 + 1)) (lv' := [(2, .int (x2 + 1)), (0, .ref (a 0)), (1, .int x1)]) hx hb dX4_breakerOf_68 hl (k := 2) rfl (by first | rfl | decide) (by decide) rfl (fun ls hl => ?_)
              refine lv_goto (tgt := 2) hx hb dX4_breakerOf_71 (by decide) ?_
              exact ih _ _ h  _ _ _ hP hD hS (lv_sub hl [1, 2, 0] rfl)
            · replace h := fx_ite_f c53 h
              refine lv_aload_n hx hb dX4_breakerOf_56 rfl (lv_at hl 0 rfl) ?_
              refine va_get (D := D) (ci := 4) (v := .ref (a 1)) (C := RX4) (T := TX4) (N := 16) hx hb hts i4 hown hK hP 0 rfl rfl 0 (by decide) f9 (fun _ h9 => h9) rfl dX4_breakerOf_57 ?_
              refine lv_iload_n hx hb dX4_breakerOf_60 rfl (lv_at hl 2 rfl) ?_
              obtain ⟨r61, q61, h⟩ := bnd1_inv h
              refine kSI (n := 1) (As := [.int x2]) (rest := [.ref (a 1)]) CF hl hK hP hD hS hA (c_X4_ofT l D cI   x2 r61 q61) gX4_breakerOf_X4_ofT rfl dX4_breakerOf_61 (by decide +kernel) ⟨⟨rfl, rfl⟩, ⟨Nat.le_of_ble_eq_true rfl, Nat.le_of_ble_eq_true rfl⟩, Nat.zero_le _, Nat.zero_le _⟩ (JN.ro [] rfl rfl) rfl rfl (Nat.le_of_ble_eq_true rfl) (fun H locs hP hD hS => ?_)
              refine lv_iconst (v := 4) hx hb dX4_breakerOf_64 (by decide) ?_
              refine lv_iadd hx hb dX4_breakerOf_65 ?_
              obtain ⟨g66, h⟩ := chk_inv h
              refine va_iald (n := 61) (f := ss) hx hb hK hP 1 0 rfl rfl g66 dX4_breakerOf_66 ?_
              obtain rfl := rtv1 h
              exact rI hQ hx hb hr hlocks hAe hP hS rfl rfl dX4_breakerOf_67
  unfold M_X4_breakerOf at h
  refine lv_iconst (v := 0) hx hb dX4_breakerOf_0 (by decide) ?_
  refine lv_istore_n (lv' := [(2, .int (0 : Int32)), (0, .ref (a 0)), (1, .int p1)]) hx hb dX4_breakerOf_1 rfl hl (by decide) rfl (fun ls hl => ?_)
  exact L2 FU _ _ h  _ _ _ hP hD hS (lv_sub hl [1, 2, 0] rfl)
/-! X4_ring -/
set_option maxHeartbeats 4000000 in
set_option maxRecDepth 100000 in
theorem c_X4_ring (l : Launch) (D : va_G) (cI : ClassId) (a : Nat → Nat) (ss : (Nat → Int32)) (mm : (Nat → Int32)) (im : (Nat → Int32)) (wa : (Nat → Int32)) (hi : Int32) (le : (Nat → Int32)) (ro : (Nat → Int32)) (re : (Nat → Int32)) (lm : Int32) (rm : Int32) (pl : Int32) (nu : (Nat → Int32)) (gi : (Nat → Int32)) (bg : (Nat → Int32)) (bm : Int32) (sd : Int32) (p1 : Int32) (p2 : Int32) (res : Int32) (u_re : (Nat → Int32)) (h : M_X4_ring ss re p1 p2 = some (res, u_re)) : mI l yX4_ring wsX4_ring { frames := 2, cells := 0, slots := 0, locals := 43 } D cI [.ref (a 0), .int p1, .int p2] (cM a cI ss mm im wa hi le ro re lm rm pl nu gi bg bm sd) (cM a cI ss mm im wa hi le ro u_re lm rm pl nu gi bg bm sd) res := by
  intro sz
  refine mStart (cc := cX4_ring) (maxL := 5) (ret := (some .int)) (own := RX4) (by decide) rfl rfl (Nat.le_of_ble_eq_true rfl) (lv := [(0, .ref (a 0)), (1, .int p1), (2, .int p2)]) rfl ?_
  intro p e s m args below meth c A ls Q H locs CF hr hlocks hK hP hD hS hA hAe hl hQ
  obtain ⟨hx, hb, hml, hown, hts⟩ := id CF
  have L35 : ∀ (n : Nat) (x2 : Int32) (re : (Nat → Int32)) (x3 : Int32) (x4 : Int32), fuel (fun _ _ => none) (B_X4_ring_35 x2 ss re) n x3 x4 = some (res, u_re) → 
      ∀ (H : Heap) (locs : List Loc) (ls : Array Slot), va_P D vwCl (cM a cI ss mm im wa hi le ro re lm rm pl nu gi bg bm sd) H → va_D A (cM a cI ss mm im wa hi le ro re lm rm pl nu gi bg bm sd) → va_S A s.heap H locs → lv_has ls 5 [(0, .ref (a 0)), (2, .int x2), (3, .int x3), (4, .int x4)] → W p l e { frames := 2, cells := 0, slots := 0, locals := 43 } s m args below meth c H locs 0 0 Q (F0 m 35 ls []) := by
    intro n
    induction n with
    | zero =>
      intro x2 re x3 x4 h
      exact nomatch (show (none : Option (Int32 × (Nat → Int32))) = some (res, u_re) from h)
    | succ n ih =>
      intro x2 re x3 x4 h  H locs ls hP hD hS hl
      replace h : B_X4_ring_35 x2 ss re (fuel (fun _ _ => none) (B_X4_ring_35 x2 ss re) n) x3 x4 = some (res, u_re) := h
      unfold B_X4_ring_35 at h
      refine lv_iload hx hb dX4_ring_35 (lv_at hl 3 rfl) ?_
      refine lv_if_lt (tgt := 67) hx hb dX4_ring_37 (by decide) (fun c37 => ?_) (fun c37 => ?_)
      · replace h := fx_ite_t c37 h
        refine lv_iload_n hx hb dX4_ring_67 rfl (lv_at hl 1 rfl) ?_
        refine lv_if_ne (tgt := 78) hx hb dX4_ring_68 (by decide) (fun c68 => ?_) (fun c68 => ?_)
        · replace h := fx_ite_f c68 h
          refine lv_iload hx hb dX4_ring_78 (lv_at hl 3 rfl) ?_
          refine lv_if_ge (tgt := 87) hx hb dX4_ring_80 (by decide) (fun c80 => ?_) (fun c80 => ?_)
          · replace h := fx_ite_t c80 h
            refine lv_iconst (v := 1) hx hb dX4_ring_87 (by decide) ?_
            obtain ⟨rfl, rfl⟩ := rtv2 h
            exact rI hQ hx hb hr hlocks hAe hP hS rfl rfl dX4_ring_88
          · replace h := fx_ite_f c80 h
            refine lv_iconst (v := 0) hx hb dX4_ring_83 (by decide) ?_
            refine lv_goto (tgt := 88) hx hb dX4_ring_84 (by decide) ?_
            obtain ⟨rfl, rfl⟩ := rtv2 h
            exact rI hQ hx hb hr hlocks hAe hP hS rfl rfl dX4_ring_88
        · replace h := fx_ite_t c68 h
          refine lv_iload_n hx hb dX4_ring_71 rfl (lv_at hl 2 rfl) ?_
          obtain ⟨r72, q72, h⟩ := bnd1_inv h
          refine kSI (n := 1) (As := [.int x3]) (rest := []) CF hl hK hP hD hS hA (c_X4_bits l D cI   x3 r72 q72) gX4_ring_X4_bits rfl dX4_ring_72 (by decide +kernel) ⟨⟨rfl, rfl⟩, ⟨Nat.le_of_ble_eq_true rfl, Nat.le_of_ble_eq_true rfl⟩, Nat.zero_le _, Nat.zero_le _⟩ (JN.ro [] rfl rfl) rfl rfl (Nat.le_of_ble_eq_true rfl) (fun H locs hP hD hS => ?_)
          refine lv_goto (tgt := 88) hx hb dX4_ring_75 (by decide) ?_
          obtain ⟨rfl, rfl⟩ := rtv2 h
          exact rI hQ hx hb hr hlocks hAe hP hS rfl rfl dX4_ring_88
      · replace h := fx_ite_f c37 h
        refine lv_iload_n hx hb dX4_ring_40 rfl (lv_at hl 2 rfl) ?_
        refine lv_iload hx hb dX4_ring_41 (lv_at hl 3 rfl) ?_
        obtain ⟨r43, q43, h⟩ := bnd1_inv h
        refine kSI (n := 2) (As := [.int x3, .int x4]) (rest := []) CF hl hK hP hD hS hA (c_X4_has l D cI   x3 x4 r43 q43) gX4_ring_X4_has rfl dX4_ring_43 (by decide +kernel) ⟨⟨rfl, rfl⟩, ⟨Nat.le_of_ble_eq_true rfl, Nat.le_of_ble_eq_true rfl⟩, Nat.zero_le _, Nat.zero_le _⟩ (JN.ro [] rfl rfl) rfl rfl (Nat.le_of_ble_eq_true rfl) (fun H locs hP hD hS => ?_)
        refine lv_if_ne (tgt := 67) hx hb dX4_ring_46 (by decide) (fun c46 => ?_) (fun c46 => ?_)
        · replace h := fx_ite_f c46 h
          refine lv_iload_n hx hb dX4_ring_67 rfl (lv_at hl 1 rfl) ?_
          refine lv_if_ne (tgt := 78) hx hb dX4_ring_68 (by decide) (fun c68 => ?_) (fun c68 => ?_)
          · replace h := fx_ite_f c68 h
            refine lv_iload hx hb dX4_ring_78 (lv_at hl 3 rfl) ?_
            refine lv_if_ge (tgt := 87) hx hb dX4_ring_80 (by decide) (fun c80 => ?_) (fun c80 => ?_)
            · replace h := fx_ite_t c80 h
              refine lv_iconst (v := 1) hx hb dX4_ring_87 (by decide) ?_
              obtain ⟨rfl, rfl⟩ := rtv2 h
              exact rI hQ hx hb hr hlocks hAe hP hS rfl rfl dX4_ring_88
            · replace h := fx_ite_f c80 h
              refine lv_iconst (v := 0) hx hb dX4_ring_83 (by decide) ?_
              refine lv_goto (tgt := 88) hx hb dX4_ring_84 (by decide) ?_
              obtain ⟨rfl, rfl⟩ := rtv2 h
              exact rI hQ hx hb hr hlocks hAe hP hS rfl rfl dX4_ring_88
          · replace h := fx_ite_t c68 h
            refine lv_iload_n hx hb dX4_ring_71 rfl (lv_at hl 2 rfl) ?_
            obtain ⟨r72, q72, h⟩ := bnd1_inv h
            refine kSI (n := 1) (As := [.int x3]) (rest := []) CF hl hK hP hD hS hA (c_X4_bits l D cI   x3 r72 q72) gX4_ring_X4_bits rfl dX4_ring_72 (by decide +kernel) ⟨⟨rfl, rfl⟩, ⟨Nat.le_of_ble_eq_true rfl, Nat.le_of_ble_eq_true rfl⟩, Nat.zero_le _, Nat.zero_le _⟩ (JN.ro [] rfl rfl) rfl rfl (Nat.le_of_ble_eq_true rfl) (fun H locs hP hD hS => ?_)
            refine lv_goto (tgt := 88) hx hb dX4_ring_75 (by decide) ?_
            obtain ⟨rfl, rfl⟩ := rtv2 h
            exact rI hQ hx hb hr hlocks hAe hP hS rfl rfl dX4_ring_88
        · replace h := fx_ite_t c46 h
          refine lv_iload_n hx hb dX4_ring_49 rfl (lv_at hl 2 rfl) ?_
          refine lv_iconst (v := 1) hx hb dX4_ring_50 (by decide) ?_
          refine lv_iload hx hb dX4_ring_51 (lv_at hl 3 rfl) ?_
          refine lv_ishl hx hb dX4_ring_53 ?_
          refine lv_ior hx hb dX4_ring_54 ?_
          refine lv_istore_n (lv' := [(3, .int (x3 ||| ((1 : Int32) <<< (x4 &&& 31)))), (0, .ref (a 0)), (2, .int x2), (4, .int x4)]) hx hb dX4_ring_55 rfl hl (by decide) rfl (fun ls hl => ?_)
          refine lv_aload_n hx hb dX4_ring_56 rfl (lv_at hl 1 rfl) ?_
          refine lv_iload hx hb dX4_ring_57 (lv_at hl 3 rfl) ?_
          obtain ⟨r59, q59, h⟩ := bnd1_inv h
          refine kVI (n := 1) (As := [.int x4]) (rest := []) CF hl hK hP hD hS hA (c_X4_breakerOf l D cI a ss mm im wa hi le ro re lm rm pl nu gi bg bm sd x4 r59 q59) gX4_ring_X4_breakerOf rfl dX4_ring_59 (by decide +kernel) ⟨⟨rfl, rfl⟩, ⟨Nat.le_of_ble_eq_true rfl, Nat.le_of_ble_eq_true rfl⟩, Nat.zero_le _, Nat.zero_le _⟩ (JN.whole rfl) 0 rfl ⟨rfl, rfl⟩ rfl rfl (Nat.le_of_ble_eq_true rfl) (fun H locs hP hD hS => ?_)
          replace hP : va_P D vwCl (cM a cI ss mm im wa hi le ro re lm rm pl nu gi bg bm sd) H := hP
          replace hD : va_D A (cM a cI ss mm im wa hi le ro re lm rm pl nu gi bg bm sd) := hD
          refine lv_istore (lv' := [(4, .int r59), (3, .int (x3 ||| ((1 : Int32) <<< (x4 &&& 31)))), (0, .ref (a 0)), (2, .int x2)]) hx hb dX4_ring_62 hl (by decide) rfl (fun ls hl => ?_)
          refine lv_goto (tgt := 35) hx hb dX4_ring_64 (by decide) ?_
          exact ih _ _ _ _ h  _ _ _ hP hD hS (lv_sub hl [2, 3, 1, 0] rfl)
  unfold M_X4_ring at h
  refine lv_aload_n hx hb dX4_ring_0 rfl (lv_at hl 0 rfl) ?_
  refine lv_iload_n hx hb dX4_ring_1 rfl (lv_at hl 1 rfl) ?_
  obtain ⟨r2, q2, h⟩ := bnd1_inv h
  refine kVI (n := 1) (As := [.int p1]) (rest := []) CF hl hK hP hD hS hA (c_X4_isPerson l D cI a ss mm im wa hi le ro re lm rm pl nu gi bg bm sd p1 r2 q2) gX4_ring_X4_isPerson rfl dX4_ring_2 (by decide +kernel) ⟨⟨rfl, rfl⟩, ⟨Nat.le_of_ble_eq_true rfl, Nat.le_of_ble_eq_true rfl⟩, Nat.zero_le _, Nat.zero_le _⟩ (JN.whole rfl) 0 rfl ⟨rfl, rfl⟩ rfl rfl (Nat.le_of_ble_eq_true rfl) (fun H locs hP hD hS => ?_)
  replace hP : va_P D vwCl (cM a cI ss mm im wa hi le ro re lm rm pl nu gi bg bm sd) H := hP
  replace hD : va_D A (cM a cI ss mm im wa hi le ro re lm rm pl nu gi bg bm sd) := hD
  refine lv_if_ne (tgt := 14) hx hb dX4_ring_5 (by decide) (fun c5 => ?_) (fun c5 => ?_)
  · replace h := fx_ite_f c5 h
    refine lv_iload_n hx hb dX4_ring_14 rfl (lv_at hl 2 rfl) ?_
    refine lv_iconst (v := 0) hx hb dX4_ring_15 (by decide) ?_
    refine lv_iconst (v := 1) hx hb dX4_ring_16 (by decide) ?_
    obtain ⟨r17, q17, h⟩ := bnd1_inv h
    refine kSI (n := 3) (As := [.int p2, .int (0 : Int32), .int (1 : Int32)]) (rest := []) CF hl hK hP hD hS hA (c_X4_isIn l D cI   p2 (0 : Int32) (1 : Int32) r17 q17) gX4_ring_X4_isIn rfl dX4_ring_17 (by decide +kernel) ⟨⟨rfl, rfl⟩, ⟨Nat.le_of_ble_eq_true rfl, Nat.le_of_ble_eq_true rfl⟩, Nat.zero_le _, Nat.zero_le _⟩ (JN.ro [] rfl rfl) rfl rfl (Nat.le_of_ble_eq_true rfl) (fun H locs hP hD hS => ?_)
    refine lv_if_ne (tgt := 30) hx hb dX4_ring_20 (by decide) (fun c20 => ?_) (fun c20 => ?_)
    · replace h := fx_ite_f c20 h
      refine lv_iconst (v := 0) hx hb dX4_ring_30 (by decide) ?_
      refine lv_istore_n (lv' := [(3, .int (0 : Int32)), (0, .ref (a 0)), (1, .int p1), (2, .int p2)]) hx hb dX4_ring_31 rfl hl (by decide) rfl (fun ls hl => ?_)
      refine lv_iload_n hx hb dX4_ring_32 rfl (lv_at hl 2 rfl) ?_
      refine lv_istore (lv' := [(4, .int p1), (3, .int (0 : Int32)), (0, .ref (a 0)), (1, .int p1), (2, .int p2)]) hx hb dX4_ring_33 hl (by decide) rfl (fun ls hl => ?_)
      exact L35 FU _ _ _ _ h  _ _ _ hP hD hS (lv_sub hl [2, 4, 1, 0] rfl)
    · replace h := fx_ite_t c20 h
      refine lv_aload_n hx hb dX4_ring_23 rfl (lv_at hl 0 rfl) ?_
      refine lv_bipush (v := (-2)) hx hb dX4_ring_24 (by decide) ?_
      obtain ⟨r26, u26_re, q26, h⟩ := bnd2_inv h
      refine kVI (n := 1) (As := [.int (-2 : Int32)]) (rest := []) CF hl hK hP hD hS hA (c_X4_no l D cI a ss mm im wa hi le ro re lm rm pl nu gi bg bm sd (-2 : Int32) r26 u26_re q26) gX4_ring_X4_no rfl dX4_ring_26 (by decide +kernel) ⟨⟨rfl, rfl⟩, ⟨Nat.le_of_ble_eq_true rfl, Nat.le_of_ble_eq_true rfl⟩, Nat.zero_le _, Nat.zero_le _⟩ (JN.whole (w1 := (cM a cI ss mm im wa hi le ro u26_re lm rm pl nu gi bg bm sd)) rfl) 0 rfl ⟨rfl, rfl⟩ rfl rfl (Nat.le_of_ble_eq_true rfl) (fun H locs hP hD hS => ?_)
      replace hP : va_P D vwCl (cM a cI ss mm im wa hi le ro u26_re lm rm pl nu gi bg bm sd) H := hP
      replace hD : va_D A (cM a cI ss mm im wa hi le ro u26_re lm rm pl nu gi bg bm sd) := hD
      obtain ⟨rfl, rfl⟩ := rtv2 h
      exact rI hQ hx hb hr hlocks hAe hP hS rfl rfl dX4_ring_29
  · replace h := fx_ite_t c5 h
    refine lv_aload_n hx hb dX4_ring_8 rfl (lv_at hl 0 rfl) ?_
    refine lv_iconst (v := (-1)) hx hb dX4_ring_9 (by decide) ?_
    obtain ⟨r10, u10_re, q10, h⟩ := bnd2_inv h
    refine kVI (n := 1) (As := [.int (-1 : Int32)]) (rest := []) CF hl hK hP hD hS hA (c_X4_no l D cI a ss mm im wa hi le ro re lm rm pl nu gi bg bm sd (-1 : Int32) r10 u10_re q10) gX4_ring_X4_no rfl dX4_ring_10 (by decide +kernel) ⟨⟨rfl, rfl⟩, ⟨Nat.le_of_ble_eq_true rfl, Nat.le_of_ble_eq_true rfl⟩, Nat.zero_le _, Nat.zero_le _⟩ (JN.whole (w1 := (cM a cI ss mm im wa hi le ro u10_re lm rm pl nu gi bg bm sd)) rfl) 0 rfl ⟨rfl, rfl⟩ rfl rfl (Nat.le_of_ble_eq_true rfl) (fun H locs hP hD hS => ?_)
    replace hP : va_P D vwCl (cM a cI ss mm im wa hi le ro u10_re lm rm pl nu gi bg bm sd) H := hP
    replace hD : va_D A (cM a cI ss mm im wa hi le ro u10_re lm rm pl nu gi bg bm sd) := hD
    obtain ⟨rfl, rfl⟩ := rtv2 h
    exact rI hQ hx hb hr hlocks hAe hP hS rfl rfl dX4_ring_13
