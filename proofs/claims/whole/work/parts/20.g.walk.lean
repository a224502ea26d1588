/-! X3_storm -/
set_option maxHeartbeats 4000000 in
set_option maxRecDepth 100000 in
theorem c_X3_storm (l : Launch) (D : va_G) (cI : ClassId) (a : Nat → Nat) (no : SV) (mi : SV) (ke : SV) (hk : Int32) (sg : (Nat → Int32)) (lz : Int32) (rn : (Nat → Int32)) (rs : Int32) (rf : (Nat → Int32)) (be : (Nat → Int32)) (fh : (Nat → Int32)) (oh : (Nat → Int32)) (p1 : Int32) (p2 : Int32) (p3 : Int32) (p4 : Int32) (res : Int64) (u_mi : SV) (u_rf : (Nat → Int32)) (h : M_X3_storm no mi rf p1 p2 p3 p4 = some (res, u_mi, u_rf)) : mL l yX3_storm wsX3_storm { frames := 6, cells := 0, slots := 0, locals := 142 } D cI [.ref (a 0), .int p1, .int p2, .int p3, .int p4] (cX a cI no mi ke hk sg lz rn rs rf be fh oh) (cX a cI no u_mi ke hk sg lz rn rs u_rf be fh oh) res := by
  intro sz
  refine mStart (cc := cX3_storm) (maxL := 10) (ret := (some .long)) (own := RX3) (by decide) rfl rfl (Nat.le_of_ble_eq_true rfl) (lv := [(0, .ref (a 0)), (1, .int p1), (2, .int p2), (3, .int p3), (4, .int p4)]) rfl ?_
  intro p e s m args below meth c A ls Q H locs CF hr hlocks hK hP hD hS hA hAe hl hQ
  obtain ⟨hx, hb, hml, hown, hts⟩ := id CF
  have f10 := hts (.fieldLink RX3 10 "MendAnothersBreaking" "now" "LMendAnothersBreaking$State;") (List.mem_of_getElem? (i := 1) rfl)
  have f16 := hts (.fieldLink RX3 16 "MendAnothersBreaking" "mind" "LMendAnothersBreaking$State;") (List.mem_of_getElem? (i := 3) rfl)
  have k239 := hts (.constantLong RX3 239 (4000000000000000000)) (List.mem_of_getElem? (i := 2) rfl)
  have i3 : ∀ w ∈ wsX30, w ∈ wsX3_storm := fun w h => List.mem_cons_of_mem _ (List.mem_append_left _ (List.mem_append_right _ h))
  have L148 : ∀ (n : Nat) (x2 : Int32) (x3 : Int32) (x4 : Int32) (x5 : Int64) (mi : SV) (rf : (Nat → Int32)) (x7 : Int64) (x9 : Int32), fuel (fun _ _ => none) (B_X3_storm_148 x2 x3 x4 x5 no mi rf) n x7 x9 = some (res, u_mi, u_rf) → 
      ∀ (H : Heap) (locs : List Loc) (ls : Array Slot), va_P D vwCl (cX a cI no mi ke hk sg lz rn rs rf be fh oh) H → va_D A (cX a cI no mi ke hk sg lz rn rs rf be fh oh) → va_S A s.heap H locs → lv_has ls 10 [(2, .int x2), (3, .int x3), (4, .int x4), (5, .long x5), (7, .long x7), (9, .int x9)] → W p l e { frames := 6, cells := 0, slots := 0, locals := 142 } s m args below meth c H locs 0 0 Q (F0 m 148 ls []) := by
    intro n
    induction n with
    | zero =>
      intro x2 x3 x4 x5 mi rf x7 x9 h
      exact nomatch (show (none : Option (Int64 × SV × (Nat → Int32))) = some (res, u_mi, u_rf) from h)
    | succ n ih =>
      intro x2 x3 x4 x5 mi rf x7 x9 h  H locs ls hP hD hS hl
      replace h : B_X3_storm_148 x2 x3 x4 x5 no mi rf (fuel (fun _ _ => none) (B_X3_storm_148 x2 x3 x4 x5 no mi rf) n) x7 x9 = some (res, u_mi, u_rf) := h
      unfold B_X3_storm_148 at h
      refine lv_iload hx hb dX3_storm_148 (lv_at hl 5 rfl) ?_
      refine lv_iload_n hx hb dX3_storm_150 rfl (lv_at hl 0 rfl) ?_
      refine lv_icmp_ge (tgt := 167) hx hb dX3_storm_151 (by decide) (fun c151 => ?_) (fun c151 => ?_)
      · replace h := fx_ite_t c151 h
        refine lv_lload hx hb dX3_storm_167 (lv_at hl 3 rfl) ?_
        refine lv_lload hx hb dX3_storm_169 (lv_at hl 4 rfl) ?_
        refine lv_iload hx hb dX3_storm_171 (lv_at hl 2 rfl) ?_
        obtain ⟨r173, q173, h⟩ := bnd1_inv h
        refine kSL (n := 3) (As := [.long x5, .long x7, .int x4]) (rest := []) CF hl hK hP hD hS hA (c_X3_leastTerms l D cI   x5 x7 x4 r173 q173) gX3_storm_X3_leastTerms rfl dX3_storm_173 (by decide +kernel) ⟨⟨rfl, rfl⟩, ⟨Nat.le_of_ble_eq_true rfl, Nat.le_of_ble_eq_true rfl⟩, Nat.zero_le _, Nat.zero_le _⟩ (JN.ro [] rfl rfl) rfl rfl (Nat.le_of_ble_eq_true rfl) (fun H locs hP hD hS => ?_)
        obtain ⟨rfl, rfl, rfl⟩ := ret3 h
        exact rL hQ hx hb hr hlocks hAe hP hS rfl dX3_storm_176
      · replace h := fx_ite_f c151 h
        refine lv_lload hx hb dX3_storm_154 (lv_at hl 4 rfl) ?_
        refine lv_iload_n hx hb dX3_storm_156 rfl (lv_at hl 1 rfl) ?_
        refine lv_i2l hx hb dX3_storm_157 rfl ?_
        refine lv_lmul hx hb dX3_storm_158 ?_
        refine lv_lstore (lv' := [(7, .long (x7 * (Int32.toInt64 x3))), (2, .int x2), (3, .int x3), (4, .int x4), (5, .long x5), (9, .int x9)]) hx hb dX3_storm_159 hl (by decide) rfl (fun ls hl => ?_)
        refine lv_iinc (v := (x9 + 1)) (lv' := [(9, .int (x9 + 1)), (7, .long (x7 * (Int32.toInt64 x3))), (2, .int x2), (3, .int x3), (4, .int x4), (5, .long x5)]) hx hb dX3_storm_161 hl (k := 5) rfl (by first | rfl | decide) (by decide) rfl (fun ls hl => ?_)
        refine lv_goto (tgt := 148) hx hb dX3_storm_164 (by decide) ?_
        exact ih _ _ _ _ _ _ _ _ h  _ _ _ hP hD hS (lv_sub hl [2, 3, 4, 5, 1, 0] rfl)
  have L96 : ∀ (n : Nat) (x1 : Int32) (x2 : Int32) (x3 : Int32) (x4 : Int32) (rf : (Nat → Int32)) (x5 : Int64) (x7 : Int32) (mi : SV), fuel (fun _ _ _ => none) (B_X3_storm_96 x1 x2 x3 x4 no rf) n x5 x7 mi = some (res, u_mi, u_rf) → 
      ∀ (H : Heap) (locs : List Loc) (ls : Array Slot), va_P D vwCl (cX a cI no mi ke hk sg lz rn rs rf be fh oh) H → va_D A (cX a cI no mi ke hk sg lz rn rs rf be fh oh) → va_S A s.heap H locs → lv_has ls 10 [(0, .ref (a 0)), (1, .int x1), (2, .int x2), (3, .int x3), (4, .int x4), (5, .long x5), (7, .int x7)] → W p l e { frames := 6, cells := 0, slots := 0, locals := 142 } s m args below meth c H locs 0 0 Q (F0 m 96 ls []) := by
    intro n
    induction n with
    | zero =>
      intro x1 x2 x3 x4 rf x5 x7 mi h
      exact nomatch (show (none : Option (Int64 × SV × (Nat → Int32))) = some (res, u_mi, u_rf) from h)
    | succ n ih =>
      intro x1 x2 x3 x4 rf x5 x7 mi h  H locs ls hP hD hS hl
      replace h : B_X3_storm_96 x1 x2 x3 x4 no rf (fuel (fun _ _ _ => none) (B_X3_storm_96 x1 x2 x3 x4 no rf) n) x5 x7 mi = some (res, u_mi, u_rf) := h
      unfold B_X3_storm_96 at h
      refine lv_iload hx hb dX3_storm_96 (lv_at hl 6 rfl) ?_
      refine lv_iconst (v := 1) hx hb dX3_storm_98 (by decide) ?_
      refine lv_iload_n hx hb dX3_storm_99 rfl (lv_at hl 2 rfl) ?_
      refine lv_ishl hx hb dX3_storm_100 ?_
      refine lv_icmp_ge (tgt := 142) hx hb dX3_storm_101 (by decide) (fun c101 => ?_) (fun c101 => ?_)
      · replace h := fx_ite_t c101 h
        refine lv_lconst (v := 1) hx hb dX3_storm_142 (by decide) ?_
        refine lv_lstore (lv' := [(7, .long (1 : Int64)), (0, .ref (a 0)), (1, .int x1), (2, .int x2), (3, .int x3), (4, .int x4), (5, .long x5)]) hx hb dX3_storm_143 hl (by decide) rfl (fun ls hl => ?_)
        refine lv_iconst (v := 0) hx hb dX3_storm_145 (by decide) ?_
        refine lv_istore (lv' := [(9, .int (0 : Int32)), (7, .long (1 : Int64)), (0, .ref (a 0)), (1, .int x1), (2, .int x2), (3, .int x3), (4, .int x4), (5, .long x5)]) hx hb dX3_storm_146 hl (by decide) rfl (fun ls hl => ?_)
        exact L148 FU _ _ _ _ _ _ _ _ h  _ _ _ hP hD hS (lv_sub hl [4, 5, 6, 7, 1, 0] rfl)
      · replace h := fx_ite_f c101 h
        refine lv_aload_n hx hb dX3_storm_104 rfl (lv_at hl 0 rfl) ?_
        refine lv_iload_n hx hb dX3_storm_105 rfl (lv_at hl 2 rfl) ?_
        refine lv_iload_n hx hb dX3_storm_106 rfl (lv_at hl 3 rfl) ?_
        refine lv_iload hx hb dX3_storm_107 (lv_at hl 6 rfl) ?_
        obtain ⟨r109, u109_mi, q109, h⟩ := bnd2_inv h
        refine kVL (n := 3) (As := [.int x2, .int x3, .int x7]) (rest := []) CF hl hK hP hD hS hA (c_X3_weather l D cI a no mi ke hk sg lz rn rs rf be fh oh x2 x3 x7 r109 u109_mi q109) gX3_storm_X3_weather rfl dX3_storm_109 (by decide +kernel) ⟨⟨rfl, rfl⟩, ⟨Nat.le_of_ble_eq_true rfl, Nat.le_of_ble_eq_true rfl⟩, Nat.zero_le _, Nat.zero_le _⟩ (JN.whole (w1 := (cX a cI no u109_mi ke hk sg lz rn rs rf be fh oh)) rfl) 0 rfl ⟨rfl, rfl⟩ rfl rfl (Nat.le_of_ble_eq_true rfl) (fun H locs hP hD hS => ?_)
        replace hP : va_P D vwCl (cX a cI no u109_mi ke hk sg lz rn rs rf be fh oh) H := hP
        replace hD : va_D A (cX a cI no u109_mi ke hk sg lz rn rs rf be fh oh) := hD
        refine lv_lstore (lv' := [(8, .long r109), (0, .ref (a 0)), (1, .int x1), (2, .int x2), (3, .int x3), (4, .int x4), (5, .long x5), (7, .int x7)]) hx hb dX3_storm_112 hl (by decide) rfl (fun ls hl => ?_)
        refine lv_lload hx hb dX3_storm_114 (lv_at hl 6 rfl) ?_
        refine lv_aload_n hx hb dX3_storm_116 rfl (lv_at hl 1 rfl) ?_
        refine va_get (D := D) (ci := 3) (v := .ref (a 9)) (C := RX3) (T := TX3) (N := 11) hx hb hts i3 hown hK hP 0 rfl rfl 1 (by decide) f16 (fun _ h9 => h9) rfl dX3_storm_117 ?_
        refine lv_iload_n hx hb dX3_storm_120 rfl (lv_at hl 2 rfl) ?_
        obtain ⟨r121, q121, h⟩ := bnd1_inv h
        refine kVI (n := 1) (As := [.int x1]) (rest := [.long x5]) CF hl hK hP hD hS hA (c_X2_isWhole l D cI (a 9) (a 10) (a 11) (a 12) (a 13) (a 14) (a 15) (a 16) u109_mi x1 r121 q121) gX3_storm_X2_isWhole rfl dX3_storm_121 (by decide +kernel) ⟨⟨rfl, rfl⟩, ⟨Nat.le_of_ble_eq_true rfl, Nat.le_of_ble_eq_true rfl⟩, Nat.zero_le _, Nat.zero_le _⟩ (JN.ro [9, 10, 11, 12, 13, 14, 15, 16] rfl rfl) 9 rfl ⟨rfl, rfl⟩ rfl rfl (Nat.le_of_ble_eq_true rfl) (fun H locs hP hD hS => ?_)
        refine lv_if_eq (tgt := 132) hx hb dX3_storm_124 (by decide) (fun c124 => ?_) (fun c124 => ?_)
        · replace h := fx_ite_t c124 h
          refine lv_lconst (v := 0) hx hb dX3_storm_132 (by decide) ?_
          refine lv_ladd hx hb dX3_storm_133 ?_
          refine lv_lstore (lv' := [(5, .long (x5 + (0 : Int64))), (8, .long r109), (0, .ref (a 0)), (1, .int x1), (2, .int x2), (3, .int x3), (4, .int x4), (7, .int x7)]) hx hb dX3_storm_134 hl (by decide) rfl (fun ls hl => ?_)
          refine lv_iinc (v := (x7 + 1)) (lv' := [(7, .int (x7 + 1)), (5, .long (x5 + (0 : Int64))), (8, .long r109), (0, .ref (a 0)), (1, .int x1), (2, .int x2), (3, .int x3), (4, .int x4)]) hx hb dX3_storm_136 hl (k := 7) rfl (by first | rfl | decide) (by decide) rfl (fun ls hl => ?_)
          refine lv_goto (tgt := 96) hx hb dX3_storm_139 (by decide) ?_
          exact ih _ _ _ _ _ _ _ _ h  _ _ _ hP hD hS (lv_sub hl [3, 4, 5, 6, 7, 1, 0] rfl)
        · replace h := fx_ite_f c124 h
          refine lv_lload hx hb dX3_storm_127 (lv_at hl 0 rfl) ?_
          refine lv_goto (tgt := 133) hx hb dX3_storm_129 (by decide) ?_
          refine lv_ladd hx hb dX3_storm_133 ?_
          refine lv_lstore (lv' := [(5, .long (x5 + r109)), (8, .long r109), (0, .ref (a 0)), (1, .int x1), (2, .int x2), (3, .int x3), (4, .int x4), (7, .int x7)]) hx hb dX3_storm_134 hl (by decide) rfl (fun ls hl => ?_)
          refine lv_iinc (v := (x7 + 1)) (lv' := [(7, .int (x7 + 1)), (5, .long (x5 + r109)), (8, .long r109), (0, .ref (a 0)), (1, .int x1), (2, .int x2), (3, .int x3), (4, .int x4)]) hx hb dX3_storm_136 hl (k := 7) rfl (by first | rfl | decide) (by decide) rfl (fun ls hl => ?_)
          refine lv_goto (tgt := 96) hx hb dX3_storm_139 (by decide) ?_
          exact ih _ _ _ _ _ _ _ _ h  _ _ _ hP hD hS (lv_sub hl [3, 4, 5, 6, 7, 1, 0] rfl)
  unfold M_X3_storm at h
  refine lv_aload_n hx hb dX3_storm_0 rfl (lv_at hl 0 rfl) ?_
  refine va_get (D := D) (ci := 3) (v := .ref (a 1)) (C := RX3) (T := TX3) (N := 11) hx hb hts i3 hown hK hP 0 rfl rfl 0 (by decide) f10 (fun _ h9 => h9) rfl dX3_storm_1 ?_
  refine lv_iload_n hx hb dX3_storm_4 rfl (lv_at hl 1 rfl) ?_
  obtain ⟨r5, q5, h⟩ := bnd1_inv h
  refine kVI (n := 1) (As := [.int p1]) (rest := []) CF hl hK hP hD hS hA (c_X2_isThing l D cI (a 1) (a 2) (a 3) (a 4) (a 5) (a 6) (a 7) (a 8) no p1 r5 q5) gX3_storm_X2_isThing rfl dX3_storm_5 (by decide +kernel) ⟨⟨rfl, rfl⟩, ⟨Nat.le_of_ble_eq_true rfl, Nat.le_of_ble_eq_true rfl⟩, Nat.zero_le _, Nat.zero_le _⟩ (JN.ro [1, 2, 3, 4, 5, 6, 7, 8] rfl rfl) 1 rfl ⟨rfl, rfl⟩ rfl rfl (Nat.le_of_ble_eq_true rfl) (fun H locs hP hD hS => ?_)
  refine lv_if_ne (tgt := 22) hx hb dX3_storm_8 (by decide) (fun c8 => ?_) (fun c8 => ?_)
  · replace h := fx_ite_f c8 h
    refine lv_iload_n hx hb dX3_storm_22 rfl (lv_at hl 2 rfl) ?_
    refine lv_if_lt (tgt := 31) hx hb dX3_storm_23 (by decide) (fun c23 => ?_) (fun c23 => ?_)
    · replace h := fx_ite_t c23 h
      refine lv_ldc2 (v := 4000000000000000000) hx hb hown k239 dX3_storm_31 ?_
      refine lv_aload_n hx hb dX3_storm_34 rfl (lv_at hl 0 rfl) ?_
      refine lv_bipush (v := (-4)) hx hb dX3_storm_35 (by decide) ?_
      obtain ⟨r37, u37_rf, q37, h⟩ := bnd2_inv h
      refine kVI (n := 1) (As := [.int (-4 : Int32)]) (rest := [.long (4000000000000000000 : Int64)]) CF hl hK hP hD hS hA (c_X3_refuse l D cI a no mi ke hk sg lz rn rs rf be fh oh (-4 : Int32) r37 u37_rf q37) gX3_storm_X3_refuse rfl dX3_storm_37 (by decide +kernel) ⟨⟨rfl, rfl⟩, ⟨Nat.le_of_ble_eq_true rfl, Nat.le_of_ble_eq_true rfl⟩, Nat.zero_le _, Nat.zero_le _⟩ (JN.whole (w1 := (cX a cI no mi ke hk sg lz rn rs u37_rf be fh oh)) rfl) 0 rfl ⟨rfl, rfl⟩ rfl rfl (Nat.le_of_ble_eq_true rfl) (fun H locs hP hD hS => ?_)
      replace hP : va_P D vwCl (cX a cI no mi ke hk sg lz rn rs u37_rf be fh oh) H := hP
      replace hD : va_D A (cX a cI no mi ke hk sg lz rn rs u37_rf be fh oh) := hD
      refine lv_i2l hx hb dX3_storm_40 rfl ?_
      refine lv_lsub hx hb dX3_storm_41 ?_
      obtain ⟨rfl, rfl, rfl⟩ := ret3 h
      exact rL hQ hx hb hr hlocks hAe hP hS rfl dX3_storm_42
    · replace h := fx_ite_f c23 h
      refine lv_iload_n hx hb dX3_storm_26 rfl (lv_at hl 3 rfl) ?_
      refine lv_iconst (v := 2) hx hb dX3_storm_27 (by decide) ?_
      refine lv_icmp_ge (tgt := 43) hx hb dX3_storm_28 (by decide) (fun c28 => ?_) (fun c28 => ?_)
      · replace h := fx_ite_t c28 h
        refine lv_iload_n hx hb dX3_storm_43 rfl (lv_at hl 2 rfl) ?_
        refine lv_bipush (v := 7) hx hb dX3_storm_44 (by decide) ?_
        refine lv_icmp_gt (tgt := 55) hx hb dX3_storm_46 (by decide) (fun c46 => ?_) (fun c46 => ?_)
        · replace h := fx_ite_t c46 h
          refine lv_ldc2 (v := 4000000000000000000) hx hb hown k239 dX3_storm_55 ?_
          refine lv_aload_n hx hb dX3_storm_58 rfl (lv_at hl 0 rfl) ?_
          refine lv_bipush (v := (-6)) hx hb dX3_storm_59 (by decide) ?_
          obtain ⟨r61, u61_rf, q61, h⟩ := bnd2_inv h
          refine kVI (n := 1) (As := [.int (-6 : Int32)]) (rest := [.long (4000000000000000000 : Int64)]) CF hl hK hP hD hS hA (c_X3_refuse l D cI a no mi ke hk sg lz rn rs rf be fh oh (-6 : Int32) r61 u61_rf q61) gX3_storm_X3_refuse rfl dX3_storm_61 (by decide +kernel) ⟨⟨rfl, rfl⟩, ⟨Nat.le_of_ble_eq_true rfl, Nat.le_of_ble_eq_true rfl⟩, Nat.zero_le _, Nat.zero_le _⟩ (JN.whole (w1 := (cX a cI no mi ke hk sg lz rn rs u61_rf be fh oh)) rfl) 0 rfl ⟨rfl, rfl⟩ rfl rfl (Nat.le_of_ble_eq_true rfl) (fun H locs hP hD hS => ?_)
          replace hP : va_P D vwCl (cX a cI no mi ke hk sg lz rn rs u61_rf be fh oh) H := hP
          replace hD : va_D A (cX a cI no mi ke hk sg lz rn rs u61_rf be fh oh) := hD
          refine lv_i2l hx hb dX3_storm_64 rfl ?_
          refine lv_lsub hx hb dX3_storm_65 ?_
          obtain ⟨rfl, rfl, rfl⟩ := ret3 h
          exact rL hQ hx hb hr hlocks hAe hP hS rfl dX3_storm_66
        · replace h := fx_ite_f c46 h
          refine lv_iload_n hx hb dX3_storm_49 rfl (lv_at hl 3 rfl) ?_
          refine lv_bipush (v := 20) hx hb dX3_storm_50 (by decide) ?_
          refine lv_icmp_le (tgt := 67) hx hb dX3_storm_52 (by decide) (fun c52 => ?_) (fun c52 => ?_)
          · replace h := fx_ite_t c52 h
            refine lv_iload hx hb dX3_storm_67 (lv_at hl 4 rfl) ?_
            refine lv_if_lt (tgt := 78) hx hb dX3_storm_69 (by decide) (fun c69 => ?_) (fun c69 => ?_)
            · replace h := fx_ite_t c69 h
              refine lv_ldc2 (v := 4000000000000000000) hx hb hown k239 dX3_storm_78 ?_
              refine lv_aload_n hx hb dX3_storm_81 rfl (lv_at hl 0 rfl) ?_
              refine lv_bipush (v := (-2)) hx hb dX3_storm_82 (by decide) ?_
              obtain ⟨r84, u84_rf, q84, h⟩ := bnd2_inv h
              refine kVI (n := 1) (As := [.int (-2 : Int32)]) (rest := [.long (4000000000000000000 : Int64)]) CF hl hK hP hD hS hA (c_X3_refuse l D cI a no mi ke hk sg lz rn rs rf be fh oh (-2 : Int32) r84 u84_rf q84) gX3_storm_X3_refuse rfl dX3_storm_84 (by decide +kernel) ⟨⟨rfl, rfl⟩, ⟨Nat.le_of_ble_eq_true rfl, Nat.le_of_ble_eq_true rfl⟩, Nat.zero_le _, Nat.zero_le _⟩ (JN.whole (w1 := (cX a cI no mi ke hk sg lz rn rs u84_rf be fh oh)) rfl) 0 rfl ⟨rfl, rfl⟩ rfl rfl (Nat.le_of_ble_eq_true rfl) (fun H locs hP hD hS => ?_)
              replace hP : va_P D vwCl (cX a cI no mi ke hk sg lz rn rs u84_rf be fh oh) H := hP
              replace hD : va_D A (cX a cI no mi ke hk sg lz rn rs u84_rf be fh oh) := hD
              refine lv_i2l hx hb dX3_storm_87 rfl ?_
              refine lv_lsub hx hb dX3_storm_88 ?_
              obtain ⟨rfl, rfl, rfl⟩ := ret3 h
              exact rL hQ hx hb hr hlocks hAe hP hS rfl dX3_storm_89
            · replace h := fx_ite_f c69 h
              refine lv_iload hx hb dX3_storm_72 (lv_at hl 4 rfl) ?_
              refine lv_iconst (v := 1) hx hb dX3_storm_74 (by decide) ?_
              refine lv_icmp_le (tgt := 90) hx hb dX3_storm_75 (by decide) (fun c75 => ?_) (fun c75 => ?_)
              · replace h := fx_ite_t c75 h
                refine lv_lconst (v := 0) hx hb dX3_storm_90 (by decide) ?_
                refine lv_lstore (lv' := [(5, .long (0 : Int64)), (0, .ref (a 0)), (1, .int p1), (2, .int p2), (3, .int p3), (4, .int p4)]) hx hb dX3_storm_91 hl (by decide) rfl (fun ls hl => ?_)
                refine lv_iconst (v := 0) hx hb dX3_storm_93 (by decide) ?_
                refine lv_istore (lv' := [(7, .int (0 : Int32)), (5, .long (0 : Int64)), (0, .ref (a 0)), (1, .int p1), (2, .int p2), (3, .int p3), (4, .int p4)]) hx hb dX3_storm_94 hl (by decide) rfl (fun ls hl => ?_)
                exact L96 FU _ _ _ _ _ _ _ _ h  _ _ _ hP hD hS (lv_sub hl [2, 3, 4, 5, 6, 1, 0] rfl)
              · replace h := fx_ite_f c75 h
                refine lv_ldc2 (v := 4000000000000000000) hx hb hown k239 dX3_storm_78 ?_
                refine lv_aload_n hx hb dX3_storm_81 rfl (lv_at hl 0 rfl) ?_
                refine lv_bipush (v := (-2)) hx hb dX3_storm_82 (by decide) ?_
                obtain ⟨r84, u84_rf, q84, h⟩ := bnd2_inv h
                refine kVI (n := 1) (As := [.int (-2 : Int32)]) (rest := [.long (4000000000000000000 : Int64)]) CF hl hK hP hD hS hA (c_X3_refuse l D cI a no mi ke hk sg lz rn rs rf be fh oh (-2 : Int32) r84 u84_rf q84) gX3_storm_X3_refuse rfl dX3_storm_84 (by decide +kernel) ⟨⟨rfl, rfl⟩, ⟨Nat.le_of_ble_eq_true rfl, Nat.le_of_ble_eq_true rfl⟩, Nat.zero_le _, Nat.zero_le _⟩ (JN.whole (w1 := (cX a cI no mi ke hk sg lz rn rs u84_rf be fh oh)) rfl) 0 rfl ⟨rfl, rfl⟩ rfl rfl (Nat.le_of_ble_eq_true rfl) (fun H locs hP hD hS => ?_)
                replace hP : va_P D vwCl (cX a cI no mi ke hk sg lz rn rs u84_rf be fh oh) H := hP
                replace hD : va_D A (cX a cI no mi ke hk sg lz rn rs u84_rf be fh oh) := hD
                refine lv_i2l hx hb dX3_storm_87 rfl ?_
                refine lv_lsub hx hb dX3_storm_88 ?_
                obtain ⟨rfl, rfl, rfl⟩ := ret3 h
                exact rL hQ hx hb hr hlocks hAe hP hS rfl dX3_storm_89
          · replace h := fx_ite_f c52 h
            refine lv_ldc2 (v := 4000000000000000000) hx hb hown k239 dX3_storm_55 ?_
            refine lv_aload_n hx hb dX3_storm_58 rfl (lv_at hl 0 rfl) ?_
            refine lv_bipush (v := (-6)) hx hb dX3_storm_59 (by decide) ?_
            obtain ⟨r61, u61_rf, q61, h⟩ := bnd2_inv h
            refine kVI (n := 1) (As := [.int (-6 : Int32)]) (rest := [.long (4000000000000000000 : Int64)]) CF hl hK hP hD hS hA (c_X3_refuse l D cI a no mi ke hk sg lz rn rs rf be fh oh (-6 : Int32) r61 u61_rf q61) gX3_storm_X3_refuse rfl dX3_storm_61 (by decide +kernel) ⟨⟨rfl, rfl⟩, ⟨Nat.le_of_ble_eq_true rfl, Nat.le_of_ble_eq_true rfl⟩, Nat.zero_le _, Nat.zero_le _⟩ (JN.whole (w1 := (cX a cI no mi ke hk sg lz rn rs u61_rf be fh oh)) rfl) 0 rfl ⟨rfl, rfl⟩ rfl rfl (Nat.le_of_ble_eq_true rfl) (fun H locs hP hD hS => ?_)
            replace hP : va_P D vwCl (cX a cI no mi ke hk sg lz rn rs u61_rf be fh oh) H := hP
            replace hD : va_D A (cX a cI no mi ke hk sg lz rn rs u61_rf be fh oh) := hD
            refine lv_i2l hx hb dX3_storm_64 rfl ?_
            refine lv_lsub hx hb dX3_storm_65 ?_
            obtain ⟨rfl, rfl, rfl⟩ := ret3 h
            exact rL hQ hx hb hr hlocks hAe hP hS rfl dX3_storm_66
      · replace h := fx_ite_f c28 h
        refine lv_ldc2 (v := 4000000000000000000) hx hb hown k239 dX3_storm_31 ?_
        refine lv_aload_n hx hb dX3_storm_34 rfl (lv_at hl 0 rfl) ?_
        refine lv_bipush (v := (-4)) hx hb dX3_storm_35 (by decide) ?_
        obtain ⟨r37, u37_rf, q37, h⟩ := bnd2_inv h
        refine kVI (n := 1) (As := [.int (-4 : Int32)]) (rest := [.long (4000000000000000000 : Int64)]) CF hl hK hP hD hS hA (c_X3_refuse l D cI a no mi ke hk sg lz rn rs rf be fh oh (-4 : Int32) r37 u37_rf q37) gX3_storm_X3_refuse rfl dX3_storm_37 (by decide +kernel) ⟨⟨rfl, rfl⟩, ⟨Nat.le_of_ble_eq_true rfl, Nat.le_of_ble_eq_true rfl⟩, Nat.zero_le _, Nat.zero_le _⟩ (JN.whole (w1 := (cX a cI no mi ke hk sg lz rn rs u37_rf be fh oh)) rfl) 0 rfl ⟨rfl, rfl⟩ rfl rfl (Nat.le_of_ble_eq_true rfl) (fun H locs hP hD hS => ?_)
        replace hP : va_P D vwCl (cX a cI no mi ke hk sg lz rn rs u37_rf be fh oh) H := hP
        replace hD : va_D A (cX a cI no mi ke hk sg lz rn rs u37_rf be fh oh) := hD
        refine lv_i2l hx hb dX3_storm_40 rfl ?_
        refine lv_lsub hx hb dX3_storm_41 ?_
        obtain ⟨rfl, rfl, rfl⟩ := ret3 h
        exact rL hQ hx hb hr hlocks hAe hP hS rfl dX3_storm_42
  · replace h := fx_ite_t c8 h
    refine lv_ldc2 (v := 4000000000000000000) hx hb hown k239 dX3_storm_11 ?_
    refine lv_aload_n hx hb dX3_storm_14 rfl (lv_at hl 0 rfl) ?_
    refine lv_iconst (v := (-1)) hx hb dX3_storm_15 (by decide) ?_
    obtain ⟨r16, u16_rf, q16, h⟩ := bnd2_inv h
    refine kVI (n := 1) (As := [.int (-1 : Int32)]) (rest := [.long (4000000000000000000 : Int64)]) CF hl hK hP hD hS hA (c_X3_refuse l D cI a no mi ke hk sg lz rn rs rf be fh oh (-1 : Int32) r16 u16_rf q16) gX3_storm_X3_refuse rfl dX3_storm_16 (by decide +kernel) ⟨⟨rfl, rfl⟩, ⟨Nat.le_of_ble_eq_true rfl, Nat.le_of_ble_eq_true rfl⟩, Nat.zero_le _, Nat.zero_le _⟩ (JN.whole (w1 := (cX a cI no mi ke hk sg lz rn rs u16_rf be fh oh)) rfl) 0 rfl ⟨rfl, rfl⟩ rfl rfl (Nat.le_of_ble_eq_true rfl) (fun H locs hP hD hS => ?_)
    replace hP : va_P D vwCl (cX a cI no mi ke hk sg lz rn rs u16_rf be fh oh) H := hP
    replace hD : va_D A (cX a cI no mi ke hk sg lz rn rs u16_rf be fh oh) := hD
    refine lv_i2l hx hb dX3_storm_19 rfl ?_
    refine lv_lsub hx hb dX3_storm_20 ?_
    obtain ⟨rfl, rfl, rfl⟩ := ret3 h
    exact rL hQ hx hb hr hlocks hAe hP hS rfl dX3_storm_21
/-! X3_mean -/
set_option maxHeartbeats 4000000 in
set_option maxRecDepth 100000 in
theorem c_X3_mean (l : Launch) (D : va_G) (cI : ClassId) (a : Nat → Nat) (no : SV) (mi : SV) (ke : SV) (hk : Int32) (sg : (Nat → Int32)) (lz : Int32) (rn : (Nat → Int32)) (rs : Int32) (rf : (Nat → Int32)) (be : (Nat → Int32)) (fh : (Nat → Int32)) (oh : (Nat → Int32)) (p1 : Int32) (res : Int64) (u_rf : (Nat → Int32)) (h : M_X3_mean no rf p1 = some (res, u_rf)) : mL l yX3_mean wsX3_mean { frames := 3, cells := 0, slots := 0, locals := 63 } D cI [.ref (a 0), .int p1] (cX a cI no mi ke hk sg lz rn rs rf be fh oh) (cX a cI no mi ke hk sg lz rn rs u_rf be fh oh) res := by
  intro sz
  refine mStart (cc := cX3_mean) (maxL := 2) (ret := (some .long)) (own := RX3) (by decide) rfl rfl (Nat.le_of_ble_eq_true rfl) (lv := [(0, .ref (a 0)), (1, .int p1)]) rfl ?_
  intro p e s m args below meth c A ls Q H locs CF hr hlocks hK hP hD hS hA hAe hl hQ
  obtain ⟨hx, hb, hml, hown, hts⟩ := id CF
  have f10 := hts (.fieldLink RX3 10 "MendAnothersBreaking" "now" "LMendAnothersBreaking$State;") (List.mem_of_getElem? (i := 2) rfl)
  have k239 := hts (.constantLong RX3 239 (4000000000000000000)) (List.mem_of_getElem? (i := 1) rfl)
  have i3 : ∀ w ∈ wsX30, w ∈ wsX3_mean := fun w h => List.mem_cons_of_mem _ (List.mem_append_left _ (List.mem_append_right _ h))
  have mmax_l := hts (.methodLink RX3 252 Lib.Math.max.name) (List.mem_of_getElem? (i := 3) rfl)
  have mmax_s := hts (.static Lib.Math.max.name) (List.mem_of_getElem? (i := 4) rfl)
  have m_i := hts (.initialized "java/lang/Math") (List.mem_of_getElem? (i := 5) rfl)
  have mmax_c := hts (.code Lib.Math.max.name Lib.Math.max.code 2 (some .int)) (List.mem_of_getElem? (i := 6) rfl)
  unfold M_X3_mean at h
  refine lv_iload_n hx hb dX3_mean_0 rfl (lv_at hl 1 rfl) ?_
  refine lv_if_lt (tgt := 9) hx hb dX3_mean_1 (by decide) (fun c1 => ?_) (fun c1 => ?_)
  · replace h := fx_ite_t c1 h
    refine lv_ldc2 (v := 4000000000000000000) hx hb hown k239 dX3_mean_9 ?_
    refine lv_aload_n hx hb dX3_mean_12 rfl (lv_at hl 0 rfl) ?_
    refine lv_bipush (v := (-2)) hx hb dX3_mean_13 (by decide) ?_
    obtain ⟨r15, u15_rf, q15, h⟩ := bnd2_inv h
    refine kVI (n := 1) (As := [.int (-2 : Int32)]) (rest := [.long (4000000000000000000 : Int64)]) CF hl hK hP hD hS hA (c_X3_refuse l D cI a no mi ke hk sg lz rn rs rf be fh oh (-2 : Int32) r15 u15_rf q15) gX3_mean_X3_refuse rfl dX3_mean_15 (by decide +kernel) ⟨⟨rfl, rfl⟩, ⟨Nat.le_of_ble_eq_true rfl, Nat.le_of_ble_eq_true rfl⟩, Nat.zero_le _, Nat.zero_le _⟩ (JN.whole (w1 := (cX a cI no mi ke hk sg lz rn rs u15_rf be fh oh)) rfl) 0 rfl ⟨rfl, rfl⟩ rfl rfl (Nat.le_of_ble_eq_true rfl) (fun H locs hP hD hS => ?_)
    replace hP : va_P D vwCl (cX a cI no mi ke hk sg lz rn rs u15_rf be fh oh) H := hP
    replace hD : va_D A (cX a cI no mi ke hk sg lz rn rs u15_rf be fh oh) := hD
    refine lv_i2l hx hb dX3_mean_18 rfl ?_
    refine lv_lsub hx hb dX3_mean_19 ?_
    obtain ⟨rfl, rfl⟩ := ret2 h
    exact rL hQ hx hb hr hlocks hAe hP hS rfl dX3_mean_20
  · replace h := fx_ite_f c1 h
    refine lv_iload_n hx hb dX3_mean_4 rfl (lv_at hl 1 rfl) ?_
    refine lv_iconst (v := 1) hx hb dX3_mean_5 (by decide) ?_
    refine lv_icmp_le (tgt := 21) hx hb dX3_mean_6 (by decide) (fun c6 => ?_) (fun c6 => ?_)
    · replace h := fx_ite_t c6 h
      refine lv_aload_n hx hb dX3_mean_21 rfl (lv_at hl 0 rfl) ?_
      refine va_get (D := D) (ci := 3) (v := .ref (a 1)) (C := RX3) (T := TX3) (N := 11) hx hb hts i3 hown hK hP 0 rfl rfl 0 (by decide) f10 (fun _ h9 => h9) rfl dX3_mean_22 ?_
      obtain ⟨r25, q25, h⟩ := bnd1_inv h
      refine kVI (n := 0) (As := []) (rest := []) CF hl hK hP hD hS hA (c_X2_wearOfWhole l D cI (a 1) (a 2) (a 3) (a 4) (a 5) (a 6) (a 7) (a 8) no  r25 q25) gX3_mean_X2_wearOfWhole rfl dX3_mean_25 (by decide +kernel) ⟨⟨rfl, rfl⟩, ⟨Nat.le_of_ble_eq_true rfl, Nat.le_of_ble_eq_true rfl⟩, Nat.zero_le _, Nat.zero_le _⟩ (JN.ro [1, 2, 3, 4, 5, 6, 7, 8] rfl rfl) 1 rfl ⟨rfl, rfl⟩ rfl rfl (Nat.le_of_ble_eq_true rfl) (fun H locs hP hD hS => ?_)
      refine lv_i2l hx hb dX3_mean_28 rfl ?_
      refine lv_iconst (v := 1) hx hb dX3_mean_29 (by decide) ?_
      refine lv_aload_n hx hb dX3_mean_30 rfl (lv_at hl 0 rfl) ?_
      refine va_get (D := D) (ci := 3) (v := .ref (a 1)) (C := RX3) (T := TX3) (N := 11) hx hb hts i3 hown hK hP 0 rfl rfl 0 (by decide) f10 (fun _ h9 => h9) rfl dX3_mean_31 ?_
      obtain ⟨r34, q34, h⟩ := bnd1_inv h
      refine kVI (n := 0) (As := []) (rest := [.int (1 : Int32), .long (Int32.toInt64 r25)]) CF hl hK hP hD hS hA (c_X2_wholeCount l D cI (a 1) (a 2) (a 3) (a 4) (a 5) (a 6) (a 7) (a 8) no  r34 q34) gX3_mean_X2_wholeCount rfl dX3_mean_34 (by decide +kernel) ⟨⟨rfl, rfl⟩, ⟨Nat.le_of_ble_eq_true rfl, Nat.le_of_ble_eq_true rfl⟩, Nat.zero_le _, Nat.zero_le _⟩ (JN.ro [1, 2, 3, 4, 5, 6, 7, 8] rfl rfl) 1 rfl ⟨rfl, rfl⟩ rfl rfl (Nat.le_of_ble_eq_true rfl) (fun H locs hP hD hS => ?_)
      refine va_mmax hx hb (hml.trans hl.1.symm) hown mmax_l mmax_s m_i mmax_c (Nat.le_of_ble_eq_true rfl) (Nat.le_of_ble_eq_true rfl) (Nat.zero_le _) (Nat.zero_le _) dX3_mean_37 ?_
      refine lv_i2l hx hb dX3_mean_40 rfl ?_
      refine lv_iload_n hx hb dX3_mean_41 rfl (lv_at hl 1 rfl) ?_
      obtain ⟨r42, q42, h⟩ := bnd1_inv h
      refine kSL (n := 3) (As := [.long (Int32.toInt64 r25), .long (Int32.toInt64 (if (1 : Int32) < r34 then r34 else (1 : Int32))), .int p1]) (rest := []) CF hl hK hP hD hS hA (c_X3_leastTerms l D cI   (Int32.toInt64 r25) (Int32.toInt64 (if (1 : Int32) < r34 then r34 else (1 : Int32))) p1 r42 q42) gX3_mean_X3_leastTerms rfl dX3_mean_42 (by decide +kernel) ⟨⟨rfl, rfl⟩, ⟨Nat.le_of_ble_eq_true rfl, Nat.le_of_ble_eq_true rfl⟩, Nat.zero_le _, Nat.zero_le _⟩ (JN.ro [] rfl rfl) rfl rfl (Nat.le_of_ble_eq_true rfl) (fun H locs hP hD hS => ?_)
      obtain ⟨rfl, rfl⟩ := ret2 h
      exact rL hQ hx hb hr hlocks hAe hP hS rfl dX3_mean_45
    · replace h := fx_ite_f c6 h
      refine lv_ldc2 (v := 4000000000000000000) hx hb hown k239 dX3_mean_9 ?_
      refine lv_aload_n hx hb dX3_mean_12 rfl (lv_at hl 0 rfl) ?_
      refine lv_bipush (v := (-2)) hx hb dX3_mean_13 (by decide) ?_
      obtain ⟨r15, u15_rf, q15, h⟩ := bnd2_inv h
      refine kVI (n := 1) (As := [.int (-2 : Int32)]) (rest := [.long (4000000000000000000 : Int64)]) CF hl hK hP hD hS hA (c_X3_refuse l D cI a no mi ke hk sg lz rn rs rf be fh oh (-2 : Int32) r15 u15_rf q15) gX3_mean_X3_refuse rfl dX3_mean_15 (by decide +kernel) ⟨⟨rfl, rfl⟩, ⟨Nat.le_of_ble_eq_true rfl, Nat.le_of_ble_eq_true rfl⟩, Nat.zero_le _, Nat.zero_le _⟩ (JN.whole (w1 := (cX a cI no mi ke hk sg lz rn rs u15_rf be fh oh)) rfl) 0 rfl ⟨rfl, rfl⟩ rfl rfl (Nat.le_of_ble_eq_true rfl) (fun H locs hP hD hS => ?_)
      replace hP : va_P D vwCl (cX a cI no mi ke hk sg lz rn rs u15_rf be fh oh) H := hP
      replace hD : va_D A (cX a cI no mi ke hk sg lz rn rs u15_rf be fh oh) := hD
      refine lv_i2l hx hb dX3_mean_18 rfl ?_
      refine lv_lsub hx hb dX3_mean_19 ?_
      obtain ⟨rfl, rfl⟩ := ret2 h
      exact rL hQ hx hb hr hlocks hAe hP hS rfl dX3_mean_20
/-! X3_mindWearsAsRow -/
set_option maxHeartbeats 4000000 in
set_option maxRecDepth 100000 in
theorem c_X3_mindWearsAsRow (l : Launch) (D : va_G) (cI : ClassId) (a : Nat → Nat) (no : SV) (mi : SV) (ke : SV) (hk : Int32) (sg : (Nat → Int32)) (lz : Int32) (rn : (Nat → Int32)) (rs : Int32) (rf : (Nat → Int32)) (be : (Nat → Int32)) (fh : (Nat → Int32)) (oh : (Nat → Int32)) (p1 : Int32) (res : Int32) (u_mi : SV) (h : M_X3_mindWearsAsRow mi rn rs p1 = some (res, u_mi)) : mI l yX3_mindWearsAsRow wsX3_mindWearsAsRow { frames := 5, cells := 0, slots := 0, locals := 115 } D cI [.ref (a 0), .int p1] (cX a cI no mi ke hk sg lz rn rs rf be fh oh) (cX a cI no u_mi ke hk sg lz rn rs rf be fh oh) res := by
  intro sz
  refine mStart (cc := cX3_mindWearsAsRow) (maxL := 3) (ret := (some .boolean)) (own := RX3) (by decide) rfl rfl (Nat.le_of_ble_eq_true rfl) (lv := [(0, .ref (a 0)), (1, .int p1)]) rfl ?_
  intro p e s m args below meth c A ls Q H locs CF hr hlocks hK hP hD hS hA hAe hl hQ
  obtain ⟨hx, hb, hml, hown, hts⟩ := id CF
  have f16 := hts (.fieldLink RX3 16 "MendAnothersBreaking" "mind" "LMendAnothersBreaking$State;") (List.mem_of_getElem? (i := 2) rfl)
  have f33 := hts (.fieldLink RX3 33 "MendAnothersBreaking" "rowNumbers" "[I") (List.mem_of_getElem? (i := 4) rfl)
  have f37 := hts (.fieldLink RX3 37 "MendAnothersBreaking" "rowSize" "I") (List.mem_of_getElem? (i := 1) rfl)
  have f111 := hts (.fieldLink RX3 111 "MendAnothersBreaking$State" "wear" "[I") (List.mem_of_getElem? (i := 3) rfl)
  have i2 : ∀ w ∈ wsX20, w ∈ wsX3_mindWearsAsRow := fun w h => List.mem_cons_of_mem _ (List.mem_append_right _ h)
  have i3 : ∀ w ∈ wsX30, w ∈ wsX3_mindWearsAsRow := fun w h => List.mem_cons_of_mem _ (List.mem_append_left _ (List.mem_append_right _ h))
  have L2 : ∀ (n : Nat) (x1 : Int32) (x2 : Int32) (mi : SV), fuel (fun _ _ => none) (B_X3_mindWearsAsRow_2 x1 rn rs) n x2 mi = some (res, u_mi) → 
      ∀ (H : Heap) (locs : List Loc) (ls : Array Slot), va_P D vwCl (cX a cI no mi ke hk sg lz rn rs rf be fh oh) H → va_D A (cX a cI no mi ke hk sg lz rn rs rf be fh oh) → va_S A s.heap H locs → lv_has ls 3 [(0, .ref (a 0)), (1, .int x1), (2, .int x2)] → W p l e { frames := 5, cells := 0, slots := 0, locals := 115 } s m args below meth c H locs 0 0 Q (F0 m 2 ls []) := by
    intro n
    induction n with
    | zero =>
      intro x1 x2 mi h
      exact nomatch (show (none : Option (Int32 × SV)) = some (res, u_mi) from h)
    | succ n ih =>
      intro x1 x2 mi h  H locs ls hP hD hS hl
      replace h : B_X3_mindWearsAsRow_2 x1 rn rs (fuel (fun _ _ => none) (B_X3_mindWearsAsRow_2 x1 rn rs) n) x2 mi = some (res, u_mi) := h
      unfold B_X3_mindWearsAsRow_2 at h
      refine lv_iload_n hx hb dX3_mindWearsAsRow_2 rfl (lv_at hl 2 rfl) ?_
      refine lv_aload_n hx hb dX3_mindWearsAsRow_3 rfl (lv_at hl 0 rfl) ?_
      refine va_get (D := D) (ci := 3) (v := .int rs) (C := RX3) (T := TX3) (N := 11) hx hb hts i3 hown hK hP 0 rfl rfl 6 (by decide) f37 (fun _ h9 => h9) rfl dX3_mindWearsAsRow_4 ?_
      refine lv_icmp_ge (tgt := 47) hx hb dX3_mindWearsAsRow_7 (by decide) (fun c7 => ?_) (fun c7 => ?_)
      · replace h := fx_ite_t c7 h
        refine lv_iconst (v := 1) hx hb dX3_mindWearsAsRow_47 (by decide) ?_
        obtain ⟨rfl, rfl⟩ := ret2 h
        exact rI hQ hx hb hr hlocks hAe hP hS rfl rfl dX3_mindWearsAsRow_48
      · replace h := fx_ite_f c7 h
        refine lv_aload_n hx hb dX3_mindWearsAsRow_10 rfl (lv_at hl 0 rfl) ?_
        refine va_get (D := D) (ci := 3) (v := .ref (a 9)) (C := RX3) (T := TX3) (N := 11) hx hb hts i3 hown hK hP 0 rfl rfl 1 (by decide) f16 (fun _ h9 => h9) rfl dX3_mindWearsAsRow_11 ?_
        refine va_get (D := D) (ci := 2) (v := .ref (a 15)) (C := RX2) (T := TX2) (N := 10) hx hb hts i2 hown hK hP 9 rfl rfl 5 (by decide) f111 (fun _ h9 => h9) rfl dX3_mindWearsAsRow_14 ?_
        refine lv_iload_n hx hb dX3_mindWearsAsRow_17 rfl (lv_at hl 1 rfl) ?_
        obtain ⟨g18, h⟩ := chk_inv h
        refine va_iald (n := 9) (f := (sWe mi)) hx hb hK hP 15 0 rfl rfl g18 dX3_mindWearsAsRow_18 ?_
        refine lv_aload_n hx hb dX3_mindWearsAsRow_19 rfl (lv_at hl 0 rfl) ?_
        refine va_get (D := D) (ci := 3) (v := .ref (a 27)) (C := RX3) (T := TX3) (N := 11) hx hb hts i3 hown hK hP 0 rfl rfl 5 (by decide) f33 (fun _ h9 => h9) rfl dX3_mindWearsAsRow_20 ?_
        refine lv_iload_n hx hb dX3_mindWearsAsRow_23 rfl (lv_at hl 2 rfl) ?_
        obtain ⟨g24, h⟩ := chk_inv h
        refine va_iald (n := 16) (f := rn) hx hb hK hP 27 0 rfl rfl g24 dX3_mindWearsAsRow_24 ?_
        refine lv_icmp_eq (tgt := 30) hx hb dX3_mindWearsAsRow_25 (by decide) (fun c25 => ?_) (fun c25 => ?_)
        · replace h := fx_ite_t c25 h
          refine lv_aload_n hx hb dX3_mindWearsAsRow_30 rfl (lv_at hl 0 rfl) ?_
          refine va_get (D := D) (ci := 3) (v := .ref (a 9)) (C := RX3) (T := TX3) (N := 11) hx hb hts i3 hown hK hP 0 rfl rfl 1 (by decide) f16 (fun _ h9 => h9) rfl dX3_mindWearsAsRow_31 ?_
          refine lv_iconst (v := 1) hx hb dX3_mindWearsAsRow_34 (by decide) ?_
          refine lv_iconst (v := 1) hx hb dX3_mindWearsAsRow_35 (by decide) ?_
          refine lv_bipush (v := (-9)) hx hb dX3_mindWearsAsRow_36 (by decide) ?_
          obtain ⟨u38_mi, q38, h⟩ := bnd1_inv h
          refine kVV (n := 3) (As := [.int (1 : Int32), .int (1 : Int32), .int (-9 : Int32)]) (rest := []) CF hl hK hP hD hS hA (c_X2_pass l D cI (a 9) (a 10) (a 11) (a 12) (a 13) (a 14) (a 15) (a 16) mi (1 : Int32) (1 : Int32) (-9 : Int32) u38_mi q38) gX3_mindWearsAsRow_X2_pass rfl dX3_mindWearsAsRow_38 (by decide +kernel) ⟨⟨rfl, rfl⟩, ⟨Nat.le_of_ble_eq_true rfl, Nat.le_of_ble_eq_true rfl⟩, Nat.zero_le _, Nat.zero_le _⟩ (JN.sub (wst' := (cX a cI no u38_mi ke hk sg lz rn rs rf be fh oh)) [9, 10, 11, 12, 13, 14, 15, 16] rfl rfl rfl rfl) 9 rfl ⟨rfl, rfl⟩ rfl rfl (Nat.le_of_ble_eq_true rfl) (fun H locs hP hD hS => ?_)
          replace hP : va_P D vwCl (cX a cI no u38_mi ke hk sg lz rn rs rf be fh oh) H := hP
          replace hD : va_D A (cX a cI no u38_mi ke hk sg lz rn rs rf be fh oh) := hD
          refine lv_iinc (v := (x2 + 1)) (lv' := [(2, .int (x2 + 1)), (0, .ref (a 0)), (1, .int x1)]) hx hb dX3_mindWearsAsRow_41 hl (k := 2) rfl (by first | rfl | decide) (by decide) rfl (fun ls hl => ?_)
          refine lv_goto (tgt := 2) hx hb dX3_mindWearsAsRow_44 (by decide) ?_
          exact ih _ _ _ h  _ _ _ hP hD hS (lv_sub hl [1, 2, 0] rfl)
        · replace h := fx_ite_f c25 h
          refine lv_iconst (v := 0) hx hb dX3_mindWearsAsRow_28 (by decide) ?_
          obtain ⟨rfl, rfl⟩ := ret2 h
          exact rI hQ hx hb hr hlocks hAe hP hS rfl rfl dX3_mindWearsAsRow_29
  unfold M_X3_mindWearsAsRow at h
  refine lv_iconst (v := 0) hx hb dX3_mindWearsAsRow_0 (by decide) ?_
  refine lv_istore_n (lv' := [(2, .int (0 : Int32)), (0, .ref (a 0)), (1, .int p1)]) hx hb dX3_mindWearsAsRow_1 rfl hl (by decide) rfl (fun ls hl => ?_)
  exact L2 FU _ _ _ h  _ _ _ hP hD hS (lv_sub hl [1, 2, 0] rfl)
/-! X3_kindsOfRow -/
set_option maxHeartbeats 4000000 in
set_option maxRecDepth 100000 in
theorem c_X3_kindsOfRow (l : Launch) (D : va_G) (cI : ClassId) (a : Nat → Nat) (no : SV) (mi : SV) (ke : SV) (hk : Int32) (sg : (Nat → Int32)) (lz : Int32) (rn : (Nat → Int32)) (rs : Int32) (rf : (Nat → Int32)) (be : (Nat → Int32)) (fh : (Nat → Int32)) (oh : (Nat → Int32)) (p1 : Int32) (res : Int32) (u_mi : SV) (h : M_X3_kindsOfRow no mi rn rs p1 = some (res, u_mi)) : mI l yX3_kindsOfRow wsX3_kindsOfRow { frames := 6, cells := 0, slots := 0, locals := 137 } D cI [.ref (a 0), .int p1] (cX a cI no mi ke hk sg lz rn rs rf be fh oh) (cX a cI no u_mi ke hk sg lz rn rs rf be fh oh) res := by
  intro sz
  refine mStart (cc := cX3_kindsOfRow) (maxL := 4) (ret := (some .int)) (own := RX3) (by decide) rfl rfl (Nat.le_of_ble_eq_true rfl) (lv := [(0, .ref (a 0)), (1, .int p1)]) rfl ?_
  intro p e s m args below meth c A ls Q H locs CF hr hlocks hK hP hD hS hA hAe hl hQ
  obtain ⟨hx, hb, hml, hown, hts⟩ := id CF
  have f10 := hts (.fieldLink RX3 10 "MendAnothersBreaking" "now" "LMendAnothersBreaking$State;") (List.mem_of_getElem? (i := 2) rfl)
  have f16 := hts (.fieldLink RX3 16 "MendAnothersBreaking" "mind" "LMendAnothersBreaking$State;") (List.mem_of_getElem? (i := 1) rfl)
  have f102 := hts (.fieldLink RX3 102 "MendAnothersBreaking$State" "kinds" "[I") (List.mem_of_getElem? (i := 3) rfl)
  have i2 : ∀ w ∈ wsX20, w ∈ wsX3_kindsOfRow := fun w h => List.mem_cons_of_mem _ (List.mem_append_right _ h)
  have i3 : ∀ w ∈ wsX30, w ∈ wsX3_kindsOfRow := fun w h => List.mem_cons_of_mem _ (List.mem_append_left _ (List.mem_append_right _ h))
  have L4 : ∀ (n : Nat) (x1 : Int32) (x2 : Int32) (x3 : Int32) (mi : SV), fuel (fun _ _ _ => none) (B_X3_kindsOfRow_4 x1 no rn rs) n x2 x3 mi = some (res, u_mi) → 
      ∀ (H : Heap) (locs : List Loc) (ls : Array Slot), va_P D vwCl (cX a cI no mi ke hk sg lz rn rs rf be fh oh) H → va_D A (cX a cI no mi ke hk sg lz rn rs rf be fh oh) → va_S A s.heap H locs → lv_has ls 4 [(0, .ref (a 0)), (1, .int x1), (2, .int x2), (3, .int x3)] → W p l e { frames := 6, cells := 0, slots := 0, locals := 137 } s m args below meth c H locs 0 0 Q (F0 m 4 ls []) := by
    intro n
    induction n with
    | zero =>
      intro x1 x2 x3 mi h
      exact nomatch (show (none : Option (Int32 × SV)) = some (res, u_mi) from h)
    | succ n ih =>
      intro x1 x2 x3 mi h  H locs ls hP hD hS hl
      replace h : B_X3_kindsOfRow_4 x1 no rn rs (fuel (fun _ _ _ => none) (B_X3_kindsOfRow_4 x1 no rn rs) n) x2 x3 mi = some (res, u_mi) := h
      unfold B_X3_kindsOfRow_4 at h
      refine lv_iload_n hx hb dX3_kindsOfRow_4 rfl (lv_at hl 3 rfl) ?_
      refine lv_bipush (v := 6) hx hb dX3_kindsOfRow_5 (by decide) ?_
      refine lv_icmp_ge (tgt := 51) hx hb dX3_kindsOfRow_7 (by decide) (fun c7 => ?_) (fun c7 => ?_)
      · replace h := fx_ite_t c7 h
        refine lv_iload_n hx hb dX3_kindsOfRow_51 rfl (lv_at hl 2 rfl) ?_
        obtain ⟨rfl, rfl⟩ := ret2 h
        exact rI hQ hx hb hr hlocks hAe hP hS rfl rfl dX3_kindsOfRow_52
      · replace h := fx_ite_f c7 h
        refine lv_aload_n hx hb dX3_kindsOfRow_10 rfl (lv_at hl 0 rfl) ?_
        refine va_get (D := D) (ci := 3) (v := .ref (a 9)) (C := RX3) (T := TX3) (N := 11) hx hb hts i3 hown hK hP 0 rfl rfl 1 (by decide) f16 (fun _ h9 => h9) rfl dX3_kindsOfRow_11 ?_
        refine lv_aload_n hx hb dX3_kindsOfRow_14 rfl (lv_at hl 0 rfl) ?_
        refine va_get (D := D) (ci := 3) (v := .ref (a 1)) (C := RX3) (T := TX3) (N := 11) hx hb hts i3 hown hK hP 0 rfl rfl 0 (by decide) f10 (fun _ h9 => h9) rfl dX3_kindsOfRow_15 ?_
        obtain ⟨u18_mi, q18, h⟩ := bnd1_inv h
        refine kVV (n := 1) (As := [.ref (a 1)]) (rest := []) CF hl hK hP hD hS hA (c_X2_become l D cI (a 9) (a 10) (a 11) (a 12) (a 13) (a 14) (a 15) (a 16) (a 1) (a 2) (a 3) (a 4) (a 5) (a 6) (a 7) (a 8) mi no  u18_mi q18) gX3_kindsOfRow_X2_become rfl dX3_kindsOfRow_18 (by decide +kernel) ⟨⟨rfl, rfl⟩, ⟨Nat.le_of_ble_eq_true rfl, Nat.le_of_ble_eq_true rfl⟩, Nat.zero_le _, Nat.zero_le _⟩ (JN.sub (wst' := (cX a cI no u18_mi ke hk sg lz rn rs rf be fh oh)) [9, 10, 11, 12, 13, 14, 15, 16, 1, 2, 3, 4, 5, 6, 7, 8] rfl rfl rfl rfl) 9 rfl ⟨rfl, rfl⟩ rfl rfl (Nat.le_of_ble_eq_true rfl) (fun H locs hP hD hS => ?_)
        replace hP : va_P D vwCl (cX a cI no u18_mi ke hk sg lz rn rs rf be fh oh) H := hP
        replace hD : va_D A (cX a cI no u18_mi ke hk sg lz rn rs rf be fh oh) := hD
        refine lv_aload_n hx hb dX3_kindsOfRow_21 rfl (lv_at hl 0 rfl) ?_
        refine va_get (D := D) (ci := 3) (v := .ref (a 9)) (C := RX3) (T := TX3) (N := 11) hx hb hts i3 hown hK hP 0 rfl rfl 1 (by decide) f16 (fun _ h9 => h9) rfl dX3_kindsOfRow_22 ?_
        refine va_get (D := D) (ci := 2) (v := .ref (a 12)) (C := RX2) (T := TX2) (N := 10) hx hb hts i2 hown hK hP 9 rfl rfl 2 (by decide) f102 (fun _ h9 => h9) rfl dX3_kindsOfRow_25 ?_
        refine lv_iload_n hx hb dX3_kindsOfRow_28 rfl (lv_at hl 1 rfl) ?_
        refine lv_iload_n hx hb dX3_kindsOfRow_29 rfl (lv_at hl 3 rfl) ?_
        obtain ⟨g30, h⟩ := chk_inv h
        refine va_iast (n := 9) (f := (sKi u18_mi)) hx hb hK hP hD hS 12 0 rfl rfl g30 dX3_kindsOfRow_30 (fun H locs hP hD hS => ?_)
        replace hP : va_P D vwCl (cX a cI no (sUKi u18_mi (upd (sKi u18_mi) (Int32.toNatClampNeg x1) x3)) ke hk sg lz rn rs rf be fh oh) H := hP
        replace hD : va_D A (cX a cI no (sUKi u18_mi (upd (sKi u18_mi) (Int32.toNatClampNeg x1) x3)) ke hk sg lz rn rs rf be fh oh) := hD
        refine lv_aload_n hx hb dX3_kindsOfRow_31 rfl (lv_at hl 0 rfl) ?_
        refine lv_iload_n hx hb dX3_kindsOfRow_32 rfl (lv_at hl 1 rfl) ?_
        obtain ⟨r33, u33_mi, q33, h⟩ := bnd2_inv h
        refine kVI (n := 1) (As := [.int x1]) (rest := []) CF hl hK hP hD hS hA (c_X3_mindWearsAsRow l D cI a no (sUKi u18_mi (upd (sKi u18_mi) (Int32.toNatClampNeg x1) x3)) ke hk sg lz rn rs rf be fh oh x1 r33 u33_mi q33) gX3_kindsOfRow_X3_mindWearsAsRow rfl dX3_kindsOfRow_33 (by decide +kernel) ⟨⟨rfl, rfl⟩, ⟨Nat.le_of_ble_eq_true rfl, Nat.le_of_ble_eq_true rfl⟩, Nat.zero_le _, Nat.zero_le _⟩ (JN.whole (w1 := (cX a cI no u33_mi ke hk sg lz rn rs rf be fh oh)) rfl) 0 rfl ⟨rfl, rfl⟩ rfl rfl (Nat.le_of_ble_eq_true rfl) (fun H locs hP hD hS => ?_)
        replace hP : va_P D vwCl (cX a cI no u33_mi ke hk sg lz rn rs rf be fh oh) H := hP
        replace hD : va_D A (cX a cI no u33_mi ke hk sg lz rn rs rf be fh oh) := hD
        refine lv_if_eq (tgt := 45) hx hb dX3_kindsOfRow_36 (by decide) (fun c36 => ?_) (fun c36 => ?_)
        · replace h := fx_ite_t c36 h
          refine lv_iinc (v := (x3 + 1)) (lv' := [(3, .int (x3 + 1)), (0, .ref (a 0)), (1, .int x1), (2, .int x2)]) hx hb dX3_kindsOfRow_45 hl (k := 3) rfl (by first | rfl | decide) (by decide) rfl (fun ls hl => ?_)
          refine lv_goto (tgt := 4) hx hb dX3_kindsOfRow_48 (by decide) ?_
          exact ih _ _ _ _ h  _ _ _ hP hD hS (lv_sub hl [1, 2, 3, 0] rfl)
        · replace h := fx_ite_f c36 h
          refine lv_iload_n hx hb dX3_kindsOfRow_39 rfl (lv_at hl 2 rfl) ?_
          refine lv_iconst (v := 1) hx hb dX3_kindsOfRow_40 (by decide) ?_
          refine lv_iload_n hx hb dX3_kindsOfRow_41 rfl (lv_at hl 3 rfl) ?_
          refine lv_ishl hx hb dX3_kindsOfRow_42 ?_
          refine lv_ior hx hb dX3_kindsOfRow_43 ?_
          refine lv_istore_n (lv' := [(2, .int (x2 ||| ((1 : Int32) <<< (x3 &&& 31)))), (0, .ref (a 0)), (1, .int x1), (3, .int x3)]) hx hb dX3_kindsOfRow_44 rfl hl (by decide) rfl (fun ls hl => ?_)
          refine lv_iinc (v := (x3 + 1)) (lv' := [(3, .int (x3 + 1)), (2, .int (x2 ||| ((1 : Int32) <<< (x3 &&& 31)))), (0, .ref (a 0)), (1, .int x1)]) hx hb dX3_kindsOfRow_45 hl (k := 3) rfl (by first | rfl | decide) (by decide) rfl (fun ls hl => ?_)
          refine lv_goto (tgt := 4) hx hb dX3_kindsOfRow_48 (by decide) ?_
          exact ih _ _ _ _ h  _ _ _ hP hD hS (lv_sub hl [2, 3, 1, 0] rfl)
  unfold M_X3_kindsOfRow at h
  refine lv_iconst (v := 0) hx hb dX3_kindsOfRow_0 (by decide) ?_
  refine lv_istore_n (lv' := [(2, .int (0 : Int32)), (0, .ref (a 0)), (1, .int p1)]) hx hb dX3_kindsOfRow_1 rfl hl (by decide) rfl (fun ls hl => ?_)
  refine lv_iconst (v := 0) hx hb dX3_kindsOfRow_2 (by decide) ?_
  refine lv_istore_n (lv' := [(3, .int (0 : Int32)), (2, .int (0 : Int32)), (0, .ref (a 0)), (1, .int p1)]) hx hb dX3_kindsOfRow_3 rfl hl (by decide) rfl (fun ls hl => ?_)
  exact L4 FU _ _ _ _ h  _ _ _ hP hD hS (lv_sub hl [2, 3, 1, 0] rfl)
/-! X3_figuresOfRow -/
set_option maxHeartbeats 4000000 in
set_option maxRecDepth 100000 in
theorem c_X3_figuresOfRow (l : Launch) (D : va_G) (cI : ClassId) (a : Nat → Nat) (no : SV) (mi : SV) (ke : SV) (hk : Int32) (sg : (Nat → Int32)) (lz : Int32) (rn : (Nat → Int32)) (rs : Int32) (rf : (Nat → Int32)) (be : (Nat → Int32)) (fh : (Nat → Int32)) (oh : (Nat → Int32)) (p1 : Int32) (res : Int32) (u_mi : SV) (h : M_X3_figuresOfRow no mi rn rs p1 = some (res, u_mi)) : mI l yX3_figuresOfRow wsX3_figuresOfRow { frames := 6, cells := 0, slots := 0, locals := 137 } D cI [.ref (a 0), .int p1] (cX a cI no mi ke hk sg lz rn rs rf be fh oh) (cX a cI no u_mi ke hk sg lz rn rs rf be fh oh) res := by
  intro sz
  refine mStart (cc := cX3_figuresOfRow) (maxL := 4) (ret := (some .int)) (own := RX3) (by decide) rfl rfl (Nat.le_of_ble_eq_true rfl) (lv := [(0, .ref (a 0)), (1, .int p1)]) rfl ?_
  intro p e s m args below meth c A ls Q H locs CF hr hlocks hK hP hD hS hA hAe hl hQ
  obtain ⟨hx, hb, hml, hown, hts⟩ := id CF
  have f10 := hts (.fieldLink RX3 10 "MendAnothersBreaking" "now" "LMendAnothersBreaking$State;") (List.mem_of_getElem? (i := 2) rfl)
  have f16 := hts (.fieldLink RX3 16 "MendAnothersBreaking" "mind" "LMendAnothersBreaking$State;") (List.mem_of_getElem? (i := 1) rfl)
  have f105 := hts (.fieldLink RX3 105 "MendAnothersBreaking$State" "figures" "[I") (List.mem_of_getElem? (i := 3) rfl)
  have i2 : ∀ w ∈ wsX20, w ∈ wsX3_figuresOfRow := fun w h => List.mem_cons_of_mem _ (List.mem_append_right _ h)
  have i3 : ∀ w ∈ wsX30, w ∈ wsX3_figuresOfRow := fun w h => List.mem_cons_of_mem _ (List.mem_append_left _ (List.mem_append_right _ h))
  have L4 : ∀ (n : Nat) (x1 : Int32) (x2 : Int32) (x3 : Int32) (mi : SV), fuel (fun _ _ _ => none) (B_X3_figuresOfRow_4 x1 no rn rs) n x2 x3 mi = some (res, u_mi) → 
      ∀ (H : Heap) (locs : List Loc) (ls : Array Slot), va_P D vwCl (cX a cI no mi ke hk sg lz rn rs rf be fh oh) H → va_D A (cX a cI no mi ke hk sg lz rn rs rf be fh oh) → va_S A s.heap H locs → lv_has ls 4 [(0, .ref (a 0)), (1, .int x1), (2, .int x2), (3, .int x3)] → W p l e { frames := 6, cells := 0, slots := 0, locals := 137 } s m args below meth c H locs 0 0 Q (F0 m 4 ls []) := by
    intro n
    induction n with
    | zero =>
      intro x1 x2 x3 mi h
      exact nomatch (show (none : Option (Int32 × SV)) = some (res, u_mi) from h)
    | succ n ih =>
      intro x1 x2 x3 mi h  H locs ls hP hD hS hl
      replace h : B_X3_figuresOfRow_4 x1 no rn rs (fuel (fun _ _ _ => none) (B_X3_figuresOfRow_4 x1 no rn rs) n) x2 x3 mi = some (res, u_mi) := h
      unfold B_X3_figuresOfRow_4 at h
      refine lv_iload_n hx hb dX3_figuresOfRow_4 rfl (lv_at hl 3 rfl) ?_
      refine lv_bipush (v := 9) hx hb dX3_figuresOfRow_5 (by decide) ?_
      refine lv_icmp_gt (tgt := 51) hx hb dX3_figuresOfRow_7 (by decide) (fun c7 => ?_) (fun c7 => ?_)
      · replace h := fx_ite_t c7 h
        refine lv_iload_n hx hb dX3_figuresOfRow_51 rfl (lv_at hl 2 rfl) ?_
        obtain ⟨rfl, rfl⟩ := ret2 h
        exact rI hQ hx hb hr hlocks hAe hP hS rfl rfl dX3_figuresOfRow_52
      · replace h := fx_ite_f c7 h
        refine lv_aload_n hx hb dX3_figuresOfRow_10 rfl (lv_at hl 0 rfl) ?_
        refine va_get (D := D) (ci := 3) (v := .ref (a 9)) (C := RX3) (T := TX3) (N := 11) hx hb hts i3 hown hK hP 0 rfl rfl 1 (by decide) f16 (fun _ h9 => h9) rfl dX3_figuresOfRow_11 ?_
        refine lv_aload_n hx hb dX3_figuresOfRow_14 rfl (lv_at hl 0 rfl) ?_
        refine va_get (D := D) (ci := 3) (v := .ref (a 1)) (C := RX3) (T := TX3) (N := 11) hx hb hts i3 hown hK hP 0 rfl rfl 0 (by decide) f10 (fun _ h9 => h9) rfl dX3_figuresOfRow_15 ?_
        obtain ⟨u18_mi, q18, h⟩ := bnd1_inv h
        refine kVV (n := 1) (As := [.ref (a 1)]) (rest := []) CF hl hK hP hD hS hA (c_X2_become l D cI (a 9) (a 10) (a 11) (a 12) (a 13) (a 14) (a 15) (a 16) (a 1) (a 2) (a 3) (a 4) (a 5) (a 6) (a 7) (a 8) mi no  u18_mi q18) gX3_figuresOfRow_X2_become rfl dX3_figuresOfRow_18 (by decide +kernel) ⟨⟨rfl, rfl⟩, ⟨Nat.le_of_ble_eq_true rfl, Nat.le_of_ble_eq_true rfl⟩, Nat.zero_le _, Nat.zero_le _⟩ (JN.sub (wst' := (cX a cI no u18_mi ke hk sg lz rn rs rf be fh oh)) [9, 10, 11, 12, 13, 14, 15, 16, 1, 2, 3, 4, 5, 6, 7, 8] rfl rfl rfl rfl) 9 rfl ⟨rfl, rfl⟩ rfl rfl (Nat.le_of_ble_eq_true rfl) (fun H locs hP hD hS => ?_)
        replace hP : va_P D vwCl (cX a cI no u18_mi ke hk sg lz rn rs rf be fh oh) H := hP
        replace hD : va_D A (cX a cI no u18_mi ke hk sg lz rn rs rf be fh oh) := hD
        refine lv_aload_n hx hb dX3_figuresOfRow_21 rfl (lv_at hl 0 rfl) ?_
        refine va_get (D := D) (ci := 3) (v := .ref (a 9)) (C := RX3) (T := TX3) (N := 11) hx hb hts i3 hown hK hP 0 rfl rfl 1 (by decide) f16 (fun _ h9 => h9) rfl dX3_figuresOfRow_22 ?_
        refine va_get (D := D) (ci := 2) (v := .ref (a 13)) (C := RX2) (T := TX2) (N := 10) hx hb hts i2 hown hK hP 9 rfl rfl 3 (by decide) f105 (fun _ h9 => h9) rfl dX3_figuresOfRow_25 ?_
        refine lv_iload_n hx hb dX3_figuresOfRow_28 rfl (lv_at hl 1 rfl) ?_
        refine lv_iload_n hx hb dX3_figuresOfRow_29 rfl (lv_at hl 3 rfl) ?_
        obtain ⟨g30, h⟩ := chk_inv h
        refine va_iast (n := 9) (f := (sFi u18_mi)) hx hb hK hP hD hS 13 0 rfl rfl g30 dX3_figuresOfRow_30 (fun H locs hP hD hS => ?_)
        replace hP : va_P D vwCl (cX a cI no (sUFi u18_mi (upd (sFi u18_mi) (Int32.toNatClampNeg x1) x3)) ke hk sg lz rn rs rf be fh oh) H := hP
        replace hD : va_D A (cX a cI no (sUFi u18_mi (upd (sFi u18_mi) (Int32.toNatClampNeg x1) x3)) ke hk sg lz rn rs rf be fh oh) := hD
        refine lv_aload_n hx hb dX3_figuresOfRow_31 rfl (lv_at hl 0 rfl) ?_
        refine lv_iload_n hx hb dX3_figuresOfRow_32 rfl (lv_at hl 1 rfl) ?_
        obtain ⟨r33, u33_mi, q33, h⟩ := bnd2_inv h
        refine kVI (n := 1) (As := [.int x1]) (rest := []) CF hl hK hP hD hS hA (c_X3_mindWearsAsRow l D cI a no (sUFi u18_mi (upd (sFi u18_mi) (Int32.toNatClampNeg x1) x3)) ke hk sg lz rn rs rf be fh oh x1 r33 u33_mi q33) gX3_figuresOfRow_X3_mindWearsAsRow rfl dX3_figuresOfRow_33 (by decide +kernel) ⟨⟨rfl, rfl⟩, ⟨Nat.le_of_ble_eq_true rfl, Nat.le_of_ble_eq_true rfl⟩, Nat.zero_le _, Nat.zero_le _⟩ (JN.whole (w1 := (cX a cI no u33_mi ke hk sg lz rn rs rf be fh oh)) rfl) 0 rfl ⟨rfl, rfl⟩ rfl rfl (Nat.le_of_ble_eq_true rfl) (fun H locs hP hD hS => ?_)
        replace hP : va_P D vwCl (cX a cI no u33_mi ke hk sg lz rn rs rf be fh oh) H := hP
        replace hD : va_D A (cX a cI no u33_mi ke hk sg lz rn rs rf be fh oh) := hD
        refine lv_if_eq (tgt := 45) hx hb dX3_figuresOfRow_36 (by decide) (fun c36 => ?_) (fun c36 => ?_)
        · replace h := fx_ite_t c36 h
          refine lv_iinc (v := (x3 + 1)) (lv' := [(3, .int (x3 + 1)), (0, .ref (a 0)), (1, .int x1), (2, .int x2)]) hx hb dX3_figuresOfRow_45 hl (k := 3) rfl (by first | rfl | decide) (by decide) rfl (fun ls hl => ?_)
          refine lv_goto (tgt := 4) hx hb dX3_figuresOfRow_48 (by decide) ?_
          exact ih _ _ _ _ h  _ _ _ hP hD hS (lv_sub hl [1, 2, 3, 0] rfl)
        · replace h := fx_ite_f c36 h
          refine lv_iload_n hx hb dX3_figuresOfRow_39 rfl (lv_at hl 2 rfl) ?_
          refine lv_iconst (v := 1) hx hb dX3_figuresOfRow_40 (by decide) ?_
          refine lv_iload_n hx hb dX3_figuresOfRow_41 rfl (lv_at hl 3 rfl) ?_
          refine lv_ishl hx hb dX3_figuresOfRow_42 ?_
          refine lv_ior hx hb dX3_figuresOfRow_43 ?_
          refine lv_istore_n (lv' := [(2, .int (x2 ||| ((1 : Int32) <<< (x3 &&& 31)))), (0, .ref (a 0)), (1, .int x1), (3, .int x3)]) hx hb dX3_figuresOfRow_44 rfl hl (by decide) rfl (fun ls hl => ?_)
          refine lv_iinc (v := (x3 + 1)) (lv' := [(3, .int (x3 + 1)), (2, .int (x2 ||| ((1 : Int32) <<< (x3 &&& 31)))), (0, .ref (a 0)), (1, .int x1)]) hx hb dX3_figuresOfRow_45 hl (k := 3) rfl (by first | rfl | decide) (by decide) rfl (fun ls hl => ?_)
          refine lv_goto (tgt := 4) hx hb dX3_figuresOfRow_48 (by decide) ?_
          exact ih _ _ _ _ h  _ _ _ hP hD hS (lv_sub hl [2, 3, 1, 0] rfl)
  unfold M_X3_figuresOfRow at h
  refine lv_iconst (v := 0) hx hb dX3_figuresOfRow_0 (by decide) ?_
  refine lv_istore_n (lv' := [(2, .int (0 : Int32)), (0, .ref (a 0)), (1, .int p1)]) hx hb dX3_figuresOfRow_1 rfl hl (by decide) rfl (fun ls hl => ?_)
  refine lv_iconst (v := 0) hx hb dX3_figuresOfRow_2 (by decide) ?_
  refine lv_istore_n (lv' := [(3, .int (0 : Int32)), (2, .int (0 : Int32)), (0, .ref (a 0)), (1, .int p1)]) hx hb dX3_figuresOfRow_3 rfl hl (by decide) rfl (fun ls hl => ?_)
  exact L4 FU _ _ _ _ h  _ _ _ hP hD hS (lv_sub hl [2, 3, 1, 0] rfl)
/-! X3_whatIs -/
set_option maxHeartbeats 4000000 in
set_option maxRecDepth 100000 in
theorem c_X3_whatIs (l : Launch) (D : va_G) (cI : ClassId) (a : Nat → Nat) (no : SV) (mi : SV) (ke : SV) (hk : Int32) (sg : (Nat → Int32)) (lz : Int32) (rn : (Nat → Int32)) (rs : Int32) (rf : (Nat → Int32)) (be : (Nat → Int32)) (fh : (Nat → Int32)) (oh : (Nat → Int32)) (p1 : Int32) (p2 : Int32) (res : Int32) (u_mi : SV) (u_rf : (Nat → Int32)) (h : M_X3_whatIs no mi rn rs rf p1 p2 = some (res, u_mi, u_rf)) : mI l yX3_whatIs wsX3_whatIs { frames := 7, cells := 0, slots := 0, locals := 160 } D cI [.ref (a 0), .int p1, .int p2] (cX a cI no mi ke hk sg lz rn rs rf be fh oh) (cX a cI no u_mi ke hk sg lz rn rs u_rf be fh oh) res := by
  intro sz
  refine mStart (cc := cX3_whatIs) (maxL := 3) (ret := (some .int)) (own := RX3) (by decide) rfl rfl (Nat.le_of_ble_eq_true rfl) (lv := [(0, .ref (a 0)), (1, .int p1), (2, .int p2)]) rfl ?_
  intro p e s m args below meth c A ls Q H locs CF hr hlocks hK hP hD hS hA hAe hl hQ
  obtain ⟨hx, hb, hml, hown, hts⟩ := id CF
  have f10 := hts (.fieldLink RX3 10 "MendAnothersBreaking" "now" "LMendAnothersBreaking$State;") (List.mem_of_getElem? (i := 1) rfl)
  have i3 : ∀ w ∈ wsX30, w ∈ wsX3_whatIs := fun w h => List.mem_cons_of_mem _ (List.mem_append_left _ (List.mem_append_right _ h))
  unfold M_X3_whatIs at h
  refine lv_aload_n hx hb dX3_whatIs_0 rfl (lv_at hl 0 rfl) ?_
  refine va_get (D := D) (ci := 3) (v := .ref (a 1)) (C := RX3) (T := TX3) (N := 11) hx hb hts i3 hown hK hP 0 rfl rfl 0 (by decide) f10 (fun _ h9 => h9) rfl dX3_whatIs_1 ?_
  refine lv_iload_n hx hb dX3_whatIs_4 rfl (lv_at hl 1 rfl) ?_
  obtain ⟨r5, q5, h⟩ := bnd1_inv h
  refine kVI (n := 1) (As := [.int p1]) (rest := []) CF hl hK hP hD hS hA (c_X2_isThing l D cI (a 1) (a 2) (a 3) (a 4) (a 5) (a 6) (a 7) (a 8) no p1 r5 q5) gX3_whatIs_X2_isThing rfl dX3_whatIs_5 (by decide +kernel) ⟨⟨rfl, rfl⟩, ⟨Nat.le_of_ble_eq_true rfl, Nat.le_of_ble_eq_true rfl⟩, Nat.zero_le _, Nat.zero_le _⟩ (JN.ro [1, 2, 3, 4, 5, 6, 7, 8] rfl rfl) 1 rfl ⟨rfl, rfl⟩ rfl rfl (Nat.le_of_ble_eq_true rfl) (fun H locs hP hD hS => ?_)
  refine lv_if_ne (tgt := 17) hx hb dX3_whatIs_8 (by decide) (fun c8 => ?_) (fun c8 => ?_)
  · replace h := fx_ite_f c8 h
    refine lv_iload_n hx hb dX3_whatIs_17 rfl (lv_at hl 2 rfl) ?_
    refine lv_if_lt (tgt := 26) hx hb dX3_whatIs_18 (by decide) (fun c18 => ?_) (fun c18 => ?_)
    · replace h := fx_ite_t c18 h
      refine lv_aload_n hx hb dX3_whatIs_26 rfl (lv_at hl 0 rfl) ?_
      refine lv_bipush (v := (-2)) hx hb dX3_whatIs_27 (by decide) ?_
      obtain ⟨r29, u29_rf, q29, h⟩ := bnd2_inv h
      refine kVI (n := 1) (As := [.int (-2 : Int32)]) (rest := []) CF hl hK hP hD hS hA (c_X3_refuse l D cI a no mi ke hk sg lz rn rs rf be fh oh (-2 : Int32) r29 u29_rf q29) gX3_whatIs_X3_refuse rfl dX3_whatIs_29 (by decide +kernel) ⟨⟨rfl, rfl⟩, ⟨Nat.le_of_ble_eq_true rfl, Nat.le_of_ble_eq_true rfl⟩, Nat.zero_le _, Nat.zero_le _⟩ (JN.whole (w1 := (cX a cI no mi ke hk sg lz rn rs u29_rf be fh oh)) rfl) 0 rfl ⟨rfl, rfl⟩ rfl rfl (Nat.le_of_ble_eq_true rfl) (fun H locs hP hD hS => ?_)
      replace hP : va_P D vwCl (cX a cI no mi ke hk sg lz rn rs u29_rf be fh oh) H := hP
      replace hD : va_D A (cX a cI no mi ke hk sg lz rn rs u29_rf be fh oh) := hD
      obtain ⟨rfl, rfl, rfl⟩ := ret3 h
      exact rI hQ hx hb hr hlocks hAe hP hS rfl rfl dX3_whatIs_32
    · replace h := fx_ite_f c18 h
      refine lv_iload_n hx hb dX3_whatIs_21 rfl (lv_at hl 2 rfl) ?_
      refine lv_iconst (v := 1) hx hb dX3_whatIs_22 (by decide) ?_
      refine lv_icmp_le (tgt := 33) hx hb dX3_whatIs_23 (by decide) (fun c23 => ?_) (fun c23 => ?_)
      · replace h := fx_ite_t c23 h
        refine lv_iload_n hx hb dX3_whatIs_33 rfl (lv_at hl 2 rfl) ?_
        refine lv_if_ne (tgt := 45) hx hb dX3_whatIs_34 (by decide) (fun c34 => ?_) (fun c34 => ?_)
        · replace h := fx_ite_f c34 h
          refine lv_aload_n hx hb dX3_whatIs_45 rfl (lv_at hl 0 rfl) ?_
          refine lv_iload_n hx hb dX3_whatIs_46 rfl (lv_at hl 1 rfl) ?_
          obtain ⟨r47, u47_mi, q47, h⟩ := bnd2_inv h
          refine kVI (n := 1) (As := [.int p1]) (rest := []) CF hl hK hP hD hS hA (c_X3_figuresOfRow l D cI a no mi ke hk sg lz rn rs rf be fh oh p1 r47 u47_mi q47) gX3_whatIs_X3_figuresOfRow rfl dX3_whatIs_47 (by decide +kernel) ⟨⟨rfl, rfl⟩, ⟨Nat.le_of_ble_eq_true rfl, Nat.le_of_ble_eq_true rfl⟩, Nat.zero_le _, Nat.zero_le _⟩ (JN.whole (w1 := (cX a cI no u47_mi ke hk sg lz rn rs rf be fh oh)) rfl) 0 rfl ⟨rfl, rfl⟩ rfl rfl (Nat.le_of_ble_eq_true rfl) (fun H locs hP hD hS => ?_)
          replace hP : va_P D vwCl (cX a cI no u47_mi ke hk sg lz rn rs rf be fh oh) H := hP
          replace hD : va_D A (cX a cI no u47_mi ke hk sg lz rn rs rf be fh oh) := hD
          obtain ⟨rfl, rfl, rfl⟩ := ret3 h
          exact rI hQ hx hb hr hlocks hAe hP hS rfl rfl dX3_whatIs_50
        · replace h := fx_ite_t c34 h
          refine lv_aload_n hx hb dX3_whatIs_37 rfl (lv_at hl 0 rfl) ?_
          refine lv_iload_n hx hb dX3_whatIs_38 rfl (lv_at hl 1 rfl) ?_
          obtain ⟨r39, u39_mi, q39, h⟩ := bnd2_inv h
          refine kVI (n := 1) (As := [.int p1]) (rest := []) CF hl hK hP hD hS hA (c_X3_kindsOfRow l D cI a no mi ke hk sg lz rn rs rf be fh oh p1 r39 u39_mi q39) gX3_whatIs_X3_kindsOfRow rfl dX3_whatIs_39 (by decide +kernel) ⟨⟨rfl, rfl⟩, ⟨Nat.le_of_ble_eq_true rfl, Nat.le_of_ble_eq_true rfl⟩, Nat.zero_le _, Nat.zero_le _⟩ (JN.whole (w1 := (cX a cI no u39_mi ke hk sg lz rn rs rf be fh oh)) rfl) 0 rfl ⟨rfl, rfl⟩ rfl rfl (Nat.le_of_ble_eq_true rfl) (fun H locs hP hD hS => ?_)
          replace hP : va_P D vwCl (cX a cI no u39_mi ke hk sg lz rn rs rf be fh oh) H := hP
          replace hD : va_D A (cX a cI no u39_mi ke hk sg lz rn rs rf be fh oh) := hD
          refine lv_goto (tgt := 50) hx hb dX3_whatIs_42 (by decide) ?_
          obtain ⟨rfl, rfl, rfl⟩ := ret3 h
          exact rI hQ hx hb hr hlocks hAe hP hS rfl rfl dX3_whatIs_50
      · replace h := fx_ite_f c23 h
        refine lv_aload_n hx hb dX3_whatIs_26 rfl (lv_at hl 0 rfl) ?_
        refine lv_bipush (v := (-2)) hx hb dX3_whatIs_27 (by decide) ?_
        obtain ⟨r29, u29_rf, q29, h⟩ := bnd2_inv h
        refine kVI (n := 1) (As := [.int (-2 : Int32)]) (rest := []) CF hl hK hP hD hS hA (c_X3_refuse l D cI a no mi ke hk sg lz rn rs rf be fh oh (-2 : Int32) r29 u29_rf q29) gX3_whatIs_X3_refuse rfl dX3_whatIs_29 (by decide +kernel) ⟨⟨rfl, rfl⟩, ⟨Nat.le_of_ble_eq_true rfl, Nat.le_of_ble_eq_true rfl⟩, Nat.zero_le _, Nat.zero_le _⟩ (JN.whole (w1 := (cX a cI no mi ke hk sg lz rn rs u29_rf be fh oh)) rfl) 0 rfl ⟨rfl, rfl⟩ rfl rfl (Nat.le_of_ble_eq_true rfl) (fun H locs hP hD hS => ?_)
        replace hP : va_P D vwCl (cX a cI no mi ke hk sg lz rn rs u29_rf be fh oh) H := hP
        replace hD : va_D A (cX a cI no mi ke hk sg lz rn rs u29_rf be fh oh) := hD
        obtain ⟨rfl, rfl, rfl⟩ := ret3 h
        exact rI hQ hx hb hr hlocks hAe hP hS rfl rfl dX3_whatIs_32
  · replace h := fx_ite_t c8 h
    refine lv_aload_n hx hb dX3_whatIs_11 rfl (lv_at hl 0 rfl) ?_
    refine lv_iconst (v := (-1)) hx hb dX3_whatIs_12 (by decide) ?_
    obtain ⟨r13, u13_rf, q13, h⟩ := bnd2_inv h
    refine kVI (n := 1) (As := [.int (-1 : Int32)]) (rest := []) CF hl hK hP hD hS hA (c_X3_refuse l D cI a no mi ke hk sg lz rn rs rf be fh oh (-1 : Int32) r13 u13_rf q13) gX3_whatIs_X3_refuse rfl dX3_whatIs_13 (by decide +kernel) ⟨⟨rfl, rfl⟩, ⟨Nat.le_of_ble_eq_true rfl, Nat.le_of_ble_eq_true rfl⟩, Nat.zero_le _, Nat.zero_le _⟩ (JN.whole (w1 := (cX a cI no mi ke hk sg lz rn rs u13_rf be fh oh)) rfl) 0 rfl ⟨rfl, rfl⟩ rfl rfl (Nat.le_of_ble_eq_true rfl) (fun H locs hP hD hS => ?_)
    replace hP : va_P D vwCl (cX a cI no mi ke hk sg lz rn rs u13_rf be fh oh) H := hP
    replace hD : va_D A (cX a cI no mi ke hk sg lz rn rs u13_rf be fh oh) := hD
    obtain ⟨rfl, rfl, rfl⟩ := ret3 h
    exact rI hQ hx hb hr hlocks hAe hP hS rfl rfl dX3_whatIs_16
/-! X3_row -/
set_option maxHeartbeats 4000000 in
set_option maxRecDepth 100000 in
theorem c_X3_row (l : Launch) (D : va_G) (cI : ClassId) (a : Nat → Nat) (no : SV) (mi : SV) (ke : SV) (hk : Int32) (sg : (Nat → Int32)) (lz : Int32) (rn : (Nat → Int32)) (rs : Int32) (rf : (Nat → Int32)) (be : (Nat → Int32)) (fh : (Nat → Int32)) (oh : (Nat → Int32)) (p1 : Int32) (res : Int32) (u_rn : (Nat → Int32)) (u_rs : Int32) (u_rf : (Nat → Int32)) (h : M_X3_row rn rs rf p1 = some (res, u_rn, u_rs, u_rf)) : mI l yX3_row wsX3_row { frames := 1, cells := 0, slots := 0, locals := 22 } D cI [.ref (a 0), .int p1] (cX a cI no mi ke hk sg lz rn rs rf be fh oh) (cX a cI no mi ke hk sg lz u_rn u_rs u_rf be fh oh) res := by
  intro sz
  refine mStart (cc := cX3_row) (maxL := 3) (ret := (some .int)) (own := RX3) (by decide) rfl rfl (Nat.le_of_ble_eq_true rfl) (lv := [(0, .ref (a 0)), (1, .int p1)]) rfl ?_
  intro p e s m args below meth c A ls Q H locs CF hr hlocks hK hP hD hS hA hAe hl hQ
  obtain ⟨hx, hb, hml, hown, hts⟩ := id CF
  have f33 := hts (.fieldLink RX3 33 "MendAnothersBreaking" "rowNumbers" "[I") (List.mem_of_getElem? (i := 2) rfl)
  have f37 := hts (.fieldLink RX3 37 "MendAnothersBreaking" "rowSize" "I") (List.mem_of_getElem? (i := 1) rfl)
  have i3 : ∀ w ∈ wsX30, w ∈ wsX3_row := fun w h => List.mem_cons_of_mem _ (List.mem_append_right _ h)
  unfold M_X3_row at h
  refine lv_iload_n hx hb dX3_row_0 rfl (lv_at hl 1 rfl) ?_
  refine lv_iconst (v := 0) hx hb dX3_row_1 (by decide) ?_
  refine lv_bipush (v := 99) hx hb dX3_row_2 (by decide) ?_
  obtain ⟨r4, q4, h⟩ := bnd1_inv h
  refine kSI (n := 3) (As := [.int p1, .int (0 : Int32), .int (99 : Int32)]) (rest := []) CF hl hK hP hD hS hA (c_X3_outside l D cI   p1 (0 : Int32) (99 : Int32) r4 q4) gX3_row_X3_outside rfl dX3_row_4 (by decide +kernel) ⟨⟨rfl, rfl⟩, ⟨Nat.le_of_ble_eq_true rfl, Nat.le_of_ble_eq_true rfl⟩, Nat.zero_le _, Nat.zero_le _⟩ (JN.ro [] rfl rfl) rfl rfl (Nat.le_of_ble_eq_true rfl) (fun H locs hP hD hS => ?_)
  refine lv_istore_n (lv' := [(2, .int r4), (0, .ref (a 0)), (1, .int p1)]) hx hb dX3_row_7 rfl hl (by decide) rfl (fun ls hl => ?_)
  refine lv_iload_n hx hb dX3_row_8 rfl (lv_at hl 0 rfl) ?_
  refine lv_if_eq (tgt := 18) hx hb dX3_row_9 (by decide) (fun c9 => ?_) (fun c9 => ?_)
  · replace h := fx_ite_t c9 h
    refine lv_aload_n hx hb dX3_row_18 rfl (lv_at hl 1 rfl) ?_
    refine va_get (D := D) (ci := 3) (v := .int rs) (C := RX3) (T := TX3) (N := 11) hx hb hts i3 hown hK hP 0 rfl rfl 6 (by decide) f37 (fun _ h9 => h9) rfl dX3_row_19 ?_
    refine lv_bipush (v := 16) hx hb dX3_row_22 (by decide) ?_
    refine lv_icmp_lt (tgt := 34) hx hb dX3_row_24 (by decide) (fun c24 => ?_) (fun c24 => ?_)
    · replace h := fx_ite_t c24 h
      refine lv_aload_n hx hb dX3_row_34 rfl (lv_at hl 1 rfl) ?_
      refine va_get (D := D) (ci := 3) (v := .ref (a 27)) (C := RX3) (T := TX3) (N := 11) hx hb hts i3 hown hK hP 0 rfl rfl 5 (by decide) f33 (fun _ h9 => h9) rfl dX3_row_35 ?_
      refine lv_aload_n hx hb dX3_row_38 rfl (lv_at hl 1 rfl) ?_
      refine va_get (D := D) (ci := 3) (v := .int rs) (C := RX3) (T := TX3) (N := 11) hx hb hts i3 hown hK hP 0 rfl rfl 6 (by decide) f37 (fun _ h9 => h9) rfl dX3_row_39 ?_
      refine lv_iload_n hx hb dX3_row_42 rfl (lv_at hl 2 rfl) ?_
      obtain ⟨g43, h⟩ := chk_inv h
      refine va_iast (n := 16) (f := rn) hx hb hK hP hD hS 27 0 rfl rfl g43 dX3_row_43 (fun H locs hP hD hS => ?_)
      replace hP : va_P D vwCl (cX a cI no mi ke hk sg lz (upd rn (Int32.toNatClampNeg rs) p1) rs rf be fh oh) H := hP
      replace hD : va_D A (cX a cI no mi ke hk sg lz (upd rn (Int32.toNatClampNeg rs) p1) rs rf be fh oh) := hD
      refine lv_aload_n hx hb dX3_row_44 rfl (lv_at hl 1 rfl) ?_
      refine lv_dup hx hb dX3_row_45 rfl ?_
      refine va_get (D := D) (ci := 3) (v := .int rs) (C := RX3) (T := TX3) (N := 11) hx hb hts i3 hown hK hP 0 rfl rfl 6 (by decide) f37 (fun _ h9 => h9) rfl dX3_row_46 ?_
      refine lv_iconst (v := 1) hx hb dX3_row_49 (by decide) ?_
      refine lv_iadd hx hb dX3_row_50 ?_
      refine va_put (D := D) (ci := 3) (v := .int (rs + (1 : Int32))) (ty := .int) (C := RX3) (T := TX3) (N := 11) hx hb hts i3 tyX3 tyX3_ok nmX3 hown hK hP hD hS 0 rfl rfl 6 (by decide) f37 (fun _ h9 => h9) rfl (by decide +kernel) rfl rfl (Nat.le_of_ble_eq_true rfl) dX3_row_51 (fun H locs hP hD hS => ?_)
      replace hP : va_P D vwCl (cX a cI no mi ke hk sg lz (upd rn (Int32.toNatClampNeg rs) p1) (rs + (1 : Int32)) rf be fh oh) H := hP
      replace hD : va_D A (cX a cI no mi ke hk sg lz (upd rn (Int32.toNatClampNeg rs) p1) (rs + (1 : Int32)) rf be fh oh) := hD
      refine lv_aload_n hx hb dX3_row_54 rfl (lv_at hl 1 rfl) ?_
      refine va_get (D := D) (ci := 3) (v := .int (rs + (1 : Int32))) (C := RX3) (T := TX3) (N := 11) hx hb hts i3 hown hK hP 0 rfl rfl 6 (by decide) f37 (fun _ h9 => h9) rfl dX3_row_55 ?_
      obtain ⟨rfl, rfl, rfl, rfl⟩ := ret4 h
      exact rI hQ hx hb hr hlocks hAe hP hS rfl rfl dX3_row_58
    · replace h := fx_ite_f c24 h
      refine lv_aload_n hx hb dX3_row_27 rfl (lv_at hl 1 rfl) ?_
      refine lv_bipush (v := (-6)) hx hb dX3_row_28 (by decide) ?_
      obtain ⟨r30, u30_rf, q30, h⟩ := bnd2_inv h
      refine kVI (n := 1) (As := [.int (-6 : Int32)]) (rest := []) CF hl hK hP hD hS hA (c_X3_refuse l D cI a no mi ke hk sg lz rn rs rf be fh oh (-6 : Int32) r30 u30_rf q30) gX3_row_X3_refuse rfl dX3_row_30 (by decide +kernel) ⟨⟨rfl, rfl⟩, ⟨Nat.le_of_ble_eq_true rfl, Nat.le_of_ble_eq_true rfl⟩, Nat.zero_le _, Nat.zero_le _⟩ (JN.whole (w1 := (cX a cI no mi ke hk sg lz rn rs u30_rf be fh oh)) rfl) 0 rfl ⟨rfl, rfl⟩ rfl rfl (Nat.le_of_ble_eq_true rfl) (fun H locs hP hD hS => ?_)
      replace hP : va_P D vwCl (cX a cI no mi ke hk sg lz rn rs u30_rf be fh oh) H := hP
      replace hD : va_D A (cX a cI no mi ke hk sg lz rn rs u30_rf be fh oh) := hD
      obtain ⟨rfl, rfl, rfl, rfl⟩ := ret4 h
      exact rI hQ hx hb hr hlocks hAe hP hS rfl rfl dX3_row_33
  · replace h := fx_ite_f c9 h
    refine lv_aload_n hx hb dX3_row_12 rfl (lv_at hl 1 rfl) ?_
    refine lv_iload_n hx hb dX3_row_13 rfl (lv_at hl 0 rfl) ?_
    obtain ⟨r14, u14_rf, q14, h⟩ := bnd2_inv h
    refine kVI (n := 1) (As := [.int r4]) (rest := []) CF hl hK hP hD hS hA (c_X3_refuse l D cI a no mi ke hk sg lz rn rs rf be fh oh r4 r14 u14_rf q14) gX3_row_X3_refuse rfl dX3_row_14 (by decide +kernel) ⟨⟨rfl, rfl⟩, ⟨Nat.le_of_ble_eq_true rfl, Nat.le_of_ble_eq_true rfl⟩, Nat.zero_le _, Nat.zero_le _⟩ (JN.whole (w1 := (cX a cI no mi ke hk sg lz rn rs u14_rf be fh oh)) rfl) 0 rfl ⟨rfl, rfl⟩ rfl rfl (Nat.le_of_ble_eq_true rfl) (fun H locs hP hD hS => ?_)
    replace hP : va_P D vwCl (cX a cI no mi ke hk sg lz rn rs u14_rf be fh oh) H := hP
    replace hD : va_D A (cX a cI no mi ke hk sg lz rn rs u14_rf be fh oh) := hD
    obtain ⟨rfl, rfl, rfl, rfl⟩ := ret4 h
    exact rI hQ hx hb hr hlocks hAe hP hS rfl rfl dX3_row_17
