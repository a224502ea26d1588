/-! X4_leastMended -/
set_option maxHeartbeats 4000000 in
set_option maxRecDepth 100000 in
theorem c_X4_leastMended (l : Launch) (D : va_G) (cI : ClassId) (h0 : Nat) (r : (Nat → Int32)) (p1 : Int32) (res : Int32) (h : M_X4_leastMended r p1 = some res) : mI l yX4_leastMended wsX4_leastMended { frames := 4, cells := 0, slots := 0, locals := 87 } D cI [.ref h0, .int p1] [(h0, .inl (cI, 61, .inl r))] [(h0, .inl (cI, 61, .inl r))] res := by
  intro sz
  refine mStart (cc := cX4_leastMended) (maxL := 3) (ret := (some .int)) (own := RX4) (by decide) rfl rfl (Nat.le_of_ble_eq_true rfl) (lv := [(0, .ref h0), (1, .int p1)]) rfl ?_
  intro p e s m args below meth c A ls Q H locs CF hr hlocks hK hP hD hS hA hAe hl hQ
  obtain ⟨hx, hb, hml, hown, hts⟩ := id CF
  have L2 : ∀ (n : Nat) (x1 : Int32) (x2 : Int32), fuel (fun _ => none) (B_X4_leastMended_2 x1 r) n x2 = some res → 
      ∀ (H : Heap) (locs : List Loc) (ls : Array Slot), va_P D vwCl [(h0, .inl (cI, 61, .inl r))] H → va_D A [(h0, .inl (cI, 61, .inl r))] → va_S A s.heap H locs → lv_has ls 3 [(0, .ref h0), (1, .int x1), (2, .int x2)] → W p l e { frames := 4, cells := 0, slots := 0, locals := 87 } s m args below meth c H locs 0 0 Q (F0 m 2 ls []) := by
    intro n
    induction n with
    | zero =>
      intro x1 x2 h
      exact nomatch (show (none : Option (Int32)) = some res from h)
    | succ n ih =>
      intro x1 x2 h  H locs ls hP hD hS hl
      replace h : B_X4_leastMended_2 x1 r (fuel (fun _ => none) (B_X4_leastMended_2 x1 r) n) x2 = some res := h
      unfold B_X4_leastMended_2 at h
      refine lv_iload_n hx hb dX4_leastMended_2 rfl (lv_at hl 2 rfl) ?_
      refine lv_aload_n hx hb dX4_leastMended_3 rfl (lv_at hl 0 rfl) ?_
      refine lv_iconst (v := 1) hx hb dX4_leastMended_4 (by decide) ?_
      refine ald (n := 61) (f := r) (k := 1) hx hb hK hP 0 0 rfl rfl (fx_lit rfl) rfl dX4_leastMended_5 ?_
      refine lv_icmp_ge (tgt := 26) hx hb dX4_leastMended_6 (by decide) (fun c6 => ?_) (fun c6 => ?_)
      · replace h := fx_ite_t c6 h
        refine lv_bipush (v := (-9)) hx hb dX4_leastMended_26 (by decide) ?_
        obtain rfl := rtv1 h
        exact rI hQ hx hb hr hlocks hAe hP hS rfl rfl dX4_leastMended_28
      · replace h := fx_ite_f c6 h
        refine lv_aload_n hx hb dX4_leastMended_9 rfl (lv_at hl 0 rfl) ?_
        refine lv_iload_n hx hb dX4_leastMended_10 rfl (lv_at hl 1 rfl) ?_
        refine lv_iload_n hx hb dX4_leastMended_11 rfl (lv_at hl 2 rfl) ?_
        obtain ⟨r12, q12, h⟩ := bnd1_inv h
        refine kSI (n := 3) (As := [.ref h0, .int x1, .int x2]) (rest := []) CF hl hK hP hD hS hA (c_X4_mayMend l D cI h0 r x1 x2 r12 q12) gX4_leastMended_X4_mayMend rfl dX4_leastMended_12 (by decide +kernel) ⟨⟨rfl, rfl⟩, ⟨Nat.le_of_ble_eq_true rfl, Nat.le_of_ble_eq_true rfl⟩, Nat.zero_le _, Nat.zero_le _⟩ (JN.whole rfl) rfl rfl (Nat.le_of_ble_eq_true rfl) (fun H locs hP hD hS => ?_)
        replace hP : va_P D vwCl [(h0, .inl (cI, 61, .inl r))] H := hP
        replace hD : va_D A [(h0, .inl (cI, 61, .inl r))] := hD
        refine lv_if_eq (tgt := 20) hx hb dX4_leastMended_15 (by decide) (fun c15 => ?_) (fun c15 => ?_)
        · replace h := fx_ite_t c15 h
          refine lv_iinc (v := (x2 + 1)) (lv' := [(2, .int (x2 + 1)), (0, .ref h0), (1, .int x1)]) hx hb dX4_leastMended_20 hl (k := 2) rfl (by first | rfl | decide) (by decide) rfl (fun ls hl => ?_)
          refine lv_goto (tgt := 2) hx hb dX4_leastMended_23 (by decide) ?_
          exact ih _ _ h  _ _ _ hP hD hS (lv_sub hl [1, 2, 0] rfl)
        · replace h := fx_ite_f c15 h
          refine lv_iload_n hx hb dX4_leastMended_18 rfl (lv_at hl 2 rfl) ?_
          obtain rfl := rtv1 h
          exact rI hQ hx hb hr hlocks hAe hP hS rfl rfl dX4_leastMended_19
  unfold M_X4_leastMended at h
  refine lv_iconst (v := 0) hx hb dX4_leastMended_0 (by decide) ?_
  refine lv_istore_n (lv' := [(2, .int (0 : Int32)), (0, .ref h0), (1, .int p1)]) hx hb dX4_leastMended_1 rfl hl (by decide) rfl (fun ls hl => ?_)
  exact L2 FU _ _ h  _ _ _ hP hD hS (lv_sub hl [1, 2, 0] rfl)
/-! X4_day -/
set_option maxHeartbeats 4000000 in
set_option maxRecDepth 100000 in
theorem c_X4_day (l : Launch) (D : va_G) (cI : ClassId) (h0 : Nat) (r : (Nat → Int32)) (p1 : Int32) (u_r : (Nat → Int32)) (h : M_X4_day r p1 = some u_r) : mV l yX4_day wsX4_day { frames := 5, cells := 0, slots := 0, locals := 109 } D cI [.ref h0, .int p1] [(h0, .inl (cI, 61, .inl r))] [(h0, .inl (cI, 61, .inl u_r))] := by
  intro sz
  refine mStart (cc := cX4_day) (maxL := 4) (ret := none) (own := RX4) (by decide) rfl rfl (Nat.le_of_ble_eq_true rfl) (lv := [(0, .ref h0), (1, .int p1)]) rfl ?_
  intro p e s m args below meth c A ls Q H locs CF hr hlocks hK hP hD hS hA hAe hl hQ
  obtain ⟨hx, hb, hml, hown, hts⟩ := id CF
  have L99 : ∀ (n : Nat)  (x2 : Int32) (r : (Nat → Int32)), fuel (fun _ _ => none) (B_X4_day_99) n x2 r = some u_r → 
      ∀ (H : Heap) (locs : List Loc) (ls : Array Slot), va_P D vwCl [(h0, .inl (cI, 61, .inl r))] H → va_D A [(h0, .inl (cI, 61, .inl r))] → va_S A s.heap H locs → lv_has ls 4 [(0, .ref h0), (2, .int x2)] → W p l e { frames := 5, cells := 0, slots := 0, locals := 109 } s m args below meth c H locs 0 0 Q (F0 m 99 ls []) := by
    intro n
    induction n with
    | zero =>
      intro x2 r h
      exact nomatch (show (none : Option ((Nat → Int32))) = some u_r from h)
    | succ n ih =>
      intro x2 r h  H locs ls hP hD hS hl
      replace h : B_X4_day_99  (fuel (fun _ _ => none) (B_X4_day_99) n) x2 r = some u_r := h
      unfold B_X4_day_99 at h
      refine lv_iload_n hx hb dX4_day_99 rfl (lv_at hl 1 rfl) ?_
      refine lv_aload_n hx hb dX4_day_100 rfl (lv_at hl 0 rfl) ?_
      refine lv_iconst (v := 0) hx hb dX4_day_101 (by decide) ?_
      refine ald (n := 61) (f := r) (k := 0) hx hb hK hP 0 0 rfl rfl (fx_lit rfl) rfl dX4_day_102 ?_
      refine lv_icmp_ge (tgt := 140) hx hb dX4_day_103 (by decide) (fun c103 => ?_) (fun c103 => ?_)
      · replace h := fx_ite_t c103 h
        obtain rfl := rtv1 h
        exact rV hQ hx hb hr hlocks hAe hP hS dX4_day_140
      · replace h := fx_ite_f c103 h
        refine lv_iload_n hx hb dX4_day_106 rfl (lv_at hl 1 rfl) ?_
        refine lv_aload_n hx hb dX4_day_107 rfl (lv_at hl 0 rfl) ?_
        refine lv_iconst (v := 3) hx hb dX4_day_108 (by decide) ?_
        refine ald (n := 61) (f := r) (k := 3) hx hb hK hP 0 0 rfl rfl (fx_lit rfl) rfl dX4_day_109 ?_
        refine lv_icmp_ne (tgt := 118) hx hb dX4_day_110 (by decide) (fun c110 => ?_) (fun c110 => ?_)
        · replace h := fx_ite_f c110 h
          refine lv_aload_n hx hb dX4_day_118 rfl (lv_at hl 0 rfl) ?_
          refine lv_iload_n hx hb dX4_day_119 rfl (lv_at hl 1 rfl) ?_
          obtain ⟨r120, q120, h⟩ := bnd1_inv h
          refine kSI (n := 2) (As := [.ref h0, .int x2]) (rest := []) CF hl hK hP hD hS hA (c_X4_leastMended l D cI h0 r x2 r120 q120) gX4_day_X4_leastMended rfl dX4_day_120 (by decide +kernel) ⟨⟨rfl, rfl⟩, ⟨Nat.le_of_ble_eq_true rfl, Nat.le_of_ble_eq_true rfl⟩, Nat.zero_le _, Nat.zero_le _⟩ (JN.whole rfl) rfl rfl (Nat.le_of_ble_eq_true rfl) (fun H locs hP hD hS => ?_)
          replace hP : va_P D vwCl [(h0, .inl (cI, 61, .inl r))] H := hP
          replace hD : va_D A [(h0, .inl (cI, 61, .inl r))] := hD
          refine lv_istore_n (lv' := [(3, .int r120), (0, .ref h0), (2, .int x2)]) hx hb dX4_day_123 rfl hl (by decide) rfl (fun ls hl => ?_)
          refine lv_iload_n hx hb dX4_day_124 rfl (lv_at hl 0 rfl) ?_
          refine lv_if_lt (tgt := 134) hx hb dX4_day_125 (by decide) (fun c125 => ?_) (fun c125 => ?_)
          · replace h := fx_ite_t c125 h
            refine lv_iinc (v := (x2 + 1)) (lv' := [(2, .int (x2 + 1)), (3, .int r120), (0, .ref h0)]) hx hb dX4_day_134 hl (k := 2) rfl (by first | rfl | decide) (by decide) rfl (fun ls hl => ?_)
            refine lv_goto (tgt := 99) hx hb dX4_day_137 (by decide) ?_
            exact ih _ _ h  _ _ _ hP hD hS (lv_sub hl [2, 0] rfl)
          · replace h := fx_ite_f c125 h
            refine lv_aload_n hx hb dX4_day_128 rfl (lv_at hl 1 rfl) ?_
            refine lv_iload_n hx hb dX4_day_129 rfl (lv_at hl 2 rfl) ?_
            refine lv_iload_n hx hb dX4_day_130 rfl (lv_at hl 0 rfl) ?_
            obtain ⟨u131_r, q131, h⟩ := bnd1_inv h
            refine kSV (n := 3) (As := [.ref h0, .int x2, .int r120]) (rest := []) CF hl hK hP hD hS hA (c_X4_mendsIn l D cI h0 r x2 r120 u131_r q131) gX4_day_X4_mendsIn rfl dX4_day_131 (by decide +kernel) ⟨⟨rfl, rfl⟩, ⟨Nat.le_of_ble_eq_true rfl, Nat.le_of_ble_eq_true rfl⟩, Nat.zero_le _, Nat.zero_le _⟩ (JN.whole (w1 := [(h0, .inl (cI, 61, .inl u131_r))]) rfl) rfl rfl (Nat.le_of_ble_eq_true rfl) (fun H locs hP hD hS => ?_)
            replace hP : va_P D vwCl [(h0, .inl (cI, 61, .inl u131_r))] H := hP
            replace hD : va_D A [(h0, .inl (cI, 61, .inl u131_r))] := hD
            refine lv_iinc (v := (x2 + 1)) (lv' := [(2, .int (x2 + 1)), (3, .int r120), (0, .ref h0)]) hx hb dX4_day_134 hl (k := 2) rfl (by first | rfl | decide) (by decide) rfl (fun ls hl => ?_)
            refine lv_goto (tgt := 99) hx hb dX4_day_137 (by decide) ?_
            exact ih _ _ h  _ _ _ hP hD hS (lv_sub hl [2, 0] rfl)
        · replace h := fx_ite_t c110 h
          refine lv_bipush (v := (-9)) hx hb dX4_day_113 (by decide) ?_
          refine lv_goto (tgt := 123) hx hb dX4_day_115 (by decide) ?_
          refine lv_istore_n (lv' := [(3, .int (-9 : Int32)), (0, .ref h0), (2, .int x2)]) hx hb dX4_day_123 rfl hl (by decide) rfl (fun ls hl => ?_)
          refine lv_iload_n hx hb dX4_day_124 rfl (lv_at hl 0 rfl) ?_
          refine lv_if_lt (tgt := 134) hx hb dX4_day_125 (by decide) (fun _ => ?_) (fun c9 => absurd c9 (by decide))
          refine lv_iinc (v := (x2 + 1)) (lv' := [(2, .int (x2 + 1)), (3, .int (-9 : Int32)), (0, .ref h0)]) hx hb dX4_day_134 hl (k := 2) rfl (by first | rfl | decide) (by decide) rfl (fun ls hl => ?_)
          refine lv_goto (tgt := 99) hx hb dX4_day_137 (by decide) ?_
          exact ih _ _ h  _ _ _ hP hD hS (lv_sub hl [2, 0] rfl)
  have L9 : ∀ (n : Nat) (x1 : Int32) (x2 : Int32) (r : (Nat → Int32)), fuel (fun _ _ => none) (B_X4_day_9 x1) n x2 r = some u_r → 
      ∀ (H : Heap) (locs : List Loc) (ls : Array Slot), va_P D vwCl [(h0, .inl (cI, 61, .inl r))] H → va_D A [(h0, .inl (cI, 61, .inl r))] → va_S A s.heap H locs → lv_has ls 4 [(0, .ref h0), (1, .int x1), (2, .int x2)] → W p l e { frames := 5, cells := 0, slots := 0, locals := 109 } s m args below meth c H locs 0 0 Q (F0 m 9 ls []) := by
    intro n
    induction n with
    | zero =>
      intro x1 x2 r h
      exact nomatch (show (none : Option ((Nat → Int32))) = some u_r from h)
    | succ n ih =>
      intro x1 x2 r h  H locs ls hP hD hS hl
      replace h : B_X4_day_9 x1 (fuel (fun _ _ => none) (B_X4_day_9 x1) n) x2 r = some u_r := h
      unfold B_X4_day_9 at h
      refine lv_iload_n hx hb dX4_day_9 rfl (lv_at hl 2 rfl) ?_
      refine lv_aload_n hx hb dX4_day_10 rfl (lv_at hl 0 rfl) ?_
      refine lv_iconst (v := 1) hx hb dX4_day_11 (by decide) ?_
      refine ald (n := 61) (f := r) (k := 1) hx hb hK hP 0 0 rfl rfl (fx_lit rfl) rfl dX4_day_12 ?_
      refine lv_icmp_ge (tgt := 97) hx hb dX4_day_13 (by decide) (fun c13 => ?_) (fun c13 => ?_)
      · replace h := fx_ite_t c13 h
        refine lv_iconst (v := 0) hx hb dX4_day_97 (by decide) ?_
        refine lv_istore_n (lv' := [(2, .int (0 : Int32)), (0, .ref h0), (1, .int x1)]) hx hb dX4_day_98 rfl hl (by decide) rfl (fun ls hl => ?_)
        exact L99 FU _ _ h  _ _ _ hP hD hS (lv_sub hl [1, 0] rfl)
      · replace h := fx_ite_f c13 h
        refine lv_aload_n hx hb dX4_day_16 rfl (lv_at hl 0 rfl) ?_
        refine lv_iload_n hx hb dX4_day_17 rfl (lv_at hl 2 rfl) ?_
        obtain ⟨r18, q18, h⟩ := bnd1_inv h
        refine kSI (n := 2) (As := [.ref h0, .int x2]) (rest := []) CF hl hK hP hD hS hA (c_X4_isWhole l D cI h0 r x2 r18 q18) gX4_day_X4_isWhole rfl dX4_day_18 (by decide +kernel) ⟨⟨rfl, rfl⟩, ⟨Nat.le_of_ble_eq_true rfl, Nat.le_of_ble_eq_true rfl⟩, Nat.zero_le _, Nat.zero_le _⟩ (JN.whole rfl) rfl rfl (Nat.le_of_ble_eq_true rfl) (fun H locs hP hD hS => ?_)
        replace hP : va_P D vwCl [(h0, .inl (cI, 61, .inl r))] H := hP
        replace hD : va_D A [(h0, .inl (cI, 61, .inl r))] := hD
        refine lv_if_ne (tgt := 27) hx hb dX4_day_21 (by decide) (fun c21 => ?_) (fun c21 => ?_)
        · replace h := fx_ite_f c21 h
          refine lv_aload_n hx hb dX4_day_27 rfl (lv_at hl 0 rfl) ?_
          refine lv_iload_n hx hb dX4_day_28 rfl (lv_at hl 2 rfl) ?_
          obtain ⟨r29, q29, h⟩ := bnd1_inv h
          refine kSI (n := 1) (As := [.int x2]) (rest := [.ref h0]) CF hl hK hP hD hS hA (c_X4_ofT l D cI   x2 r29 q29) gX4_day_X4_ofT rfl dX4_day_29 (by decide +kernel) ⟨⟨rfl, rfl⟩, ⟨Nat.le_of_ble_eq_true rfl, Nat.le_of_ble_eq_true rfl⟩, Nat.zero_le _, Nat.zero_le _⟩ (JN.ro [] rfl rfl) rfl rfl (Nat.le_of_ble_eq_true rfl) (fun H locs hP hD hS => ?_)
          refine lv_iconst (v := 3) hx hb dX4_day_32 (by decide) ?_
          refine lv_iadd hx hb dX4_day_33 ?_
          obtain ⟨g34, h⟩ := chk_inv h
          refine va_iald (n := 61) (f := r) hx hb hK hP 0 0 rfl rfl g34 dX4_day_34 ?_
          refine lv_iload_n hx hb dX4_day_35 rfl (lv_at hl 1 rfl) ?_
          refine lv_aload_n hx hb dX4_day_36 rfl (lv_at hl 0 rfl) ?_
          refine lv_iload_n hx hb dX4_day_37 rfl (lv_at hl 2 rfl) ?_
          obtain ⟨r38, q38, h⟩ := bnd1_inv h
          refine kSI (n := 1) (As := [.int x2]) (rest := [.ref h0, .int x1, .int (r (Int32.toNatClampNeg (r29 + (3 : Int32))))]) CF hl hK hP hD hS hA (c_X4_ofT l D cI   x2 r38 q38) gX4_day_X4_ofT rfl dX4_day_38 (by decide +kernel) ⟨⟨rfl, rfl⟩, ⟨Nat.le_of_ble_eq_true rfl, Nat.le_of_ble_eq_true rfl⟩, Nat.zero_le _, Nat.zero_le _⟩ (JN.ro [] rfl rfl) rfl rfl (Nat.le_of_ble_eq_true rfl) (fun H locs hP hD hS => ?_)
          refine lv_iconst (v := 0) hx hb dX4_day_41 (by decide) ?_
          refine lv_iadd hx hb dX4_day_42 ?_
          obtain ⟨g43, h⟩ := chk_inv h
          refine va_iald (n := 61) (f := r) hx hb hK hP 0 0 rfl rfl g43 dX4_day_43 ?_
          refine lv_aload_n hx hb dX4_day_44 rfl (lv_at hl 0 rfl) ?_
          refine lv_iload_n hx hb dX4_day_45 rfl (lv_at hl 2 rfl) ?_
          obtain ⟨r46, q46, h⟩ := bnd1_inv h
          refine kSI (n := 1) (As := [.int x2]) (rest := [.ref h0, .int (r (Int32.toNatClampNeg (r38 + (0 : Int32)))), .int x1, .int (r (Int32.toNatClampNeg (r29 + (3 : Int32))))]) CF hl hK hP hD hS hA (c_X4_ofT l D cI   x2 r46 q46) gX4_day_X4_ofT rfl dX4_day_46 (by decide +kernel) ⟨⟨rfl, rfl⟩, ⟨Nat.le_of_ble_eq_true rfl, Nat.le_of_ble_eq_true rfl⟩, Nat.zero_le _, Nat.zero_le _⟩ (JN.ro [] rfl rfl) rfl rfl (Nat.le_of_ble_eq_true rfl) (fun H locs hP hD hS => ?_)
          refine lv_iconst (v := 1) hx hb dX4_day_49 (by decide) ?_
          refine lv_iadd hx hb dX4_day_50 ?_
          obtain ⟨g51, h⟩ := chk_inv h
          refine va_iald (n := 61) (f := r) hx hb hK hP 0 0 rfl rfl g51 dX4_day_51 ?_
          refine lv_aload_n hx hb dX4_day_52 rfl (lv_at hl 0 rfl) ?_
          refine lv_iconst (v := 2) hx hb dX4_day_53 (by decide) ?_
          refine ald (n := 61) (f := r) (k := 2) hx hb hK hP 0 0 rfl rfl (fx_lit rfl) rfl dX4_day_54 ?_
          obtain ⟨r55, q55, h⟩ := bnd1_inv h
          refine kSI (n := 3) (As := [.int (r (Int32.toNatClampNeg (r38 + (0 : Int32)))), .int (r (Int32.toNatClampNeg (r46 + (1 : Int32)))), .int (r 2)]) (rest := [.int x1, .int (r (Int32.toNatClampNeg (r29 + (3 : Int32))))]) CF hl hK hP hD hS hA (c_X4_wearBy l D cI   (r (Int32.toNatClampNeg (r38 + (0 : Int32)))) (r (Int32.toNatClampNeg (r46 + (1 : Int32)))) (r 2) r55 q55) gX4_day_X4_wearBy rfl dX4_day_55 (by decide +kernel) ⟨⟨rfl, rfl⟩, ⟨Nat.le_of_ble_eq_true rfl, Nat.le_of_ble_eq_true rfl⟩, Nat.zero_le _, Nat.zero_le _⟩ (JN.ro [] rfl rfl) rfl rfl (Nat.le_of_ble_eq_true rfl) (fun H locs hP hD hS => ?_)
          refine lv_imul hx hb dX4_day_58 ?_
          refine lv_iadd hx hb dX4_day_59 ?_
          refine lv_istore_n (lv' := [(3, .int ((r (Int32.toNatClampNeg (r29 + (3 : Int32)))) + (x1 * r55))), (0, .ref h0), (1, .int x1), (2, .int x2)]) hx hb dX4_day_60 rfl hl (by decide) rfl (fun ls hl => ?_)
          refine lv_aload_n hx hb dX4_day_61 rfl (lv_at hl 1 rfl) ?_
          refine lv_iload_n hx hb dX4_day_62 rfl (lv_at hl 3 rfl) ?_
          obtain ⟨r63, q63, h⟩ := bnd1_inv h
          refine kSI (n := 1) (As := [.int x2]) (rest := [.ref h0]) CF hl hK hP hD hS hA (c_X4_ofT l D cI   x2 r63 q63) gX4_day_X4_ofT rfl dX4_day_63 (by decide +kernel) ⟨⟨rfl, rfl⟩, ⟨Nat.le_of_ble_eq_true rfl, Nat.le_of_ble_eq_true rfl⟩, Nat.zero_le _, Nat.zero_le _⟩ (JN.ro [] rfl rfl) rfl rfl (Nat.le_of_ble_eq_true rfl) (fun H locs hP hD hS => ?_)
          refine lv_iconst (v := 3) hx hb dX4_day_66 (by decide) ?_
          refine lv_iadd hx hb dX4_day_67 ?_
          refine lv_bipush (v := 9) hx hb dX4_day_68 (by decide) ?_
          refine lv_iload_n hx hb dX4_day_70 rfl (lv_at hl 0 rfl) ?_
          obtain ⟨r71, q71, h⟩ := bnd1_inv h
          refine kSI (n := 2) (As := [.int (9 : Int32), .int ((r (Int32.toNatClampNeg (r29 + (3 : Int32)))) + (x1 * r55))]) (rest := [.int (r63 + (3 : Int32)), .ref h0]) CF hl hK hP hD hS hA (c_X4_least l D cI   (9 : Int32) ((r (Int32.toNatClampNeg (r29 + (3 : Int32)))) + (x1 * r55)) r71 q71) gX4_day_X4_least rfl dX4_day_71 (by decide +kernel) ⟨⟨rfl, rfl⟩, ⟨Nat.le_of_ble_eq_true rfl, Nat.le_of_ble_eq_true rfl⟩, Nat.zero_le _, Nat.zero_le _⟩ (JN.ro [] rfl rfl) rfl rfl (Nat.le_of_ble_eq_true rfl) (fun H locs hP hD hS => ?_)
          obtain ⟨g74, h⟩ := chk_inv h
          refine va_iast (n := 61) (f := r) hx hb hK hP hD hS 0 0 rfl rfl g74 dX4_day_74 (fun H locs hP hD hS => ?_)
          replace hP : va_P D vwCl [(h0, .inl (cI, 61, .inl (upd r (Int32.toNatClampNeg (r63 + (3 : Int32))) r71)))] H := hP
          replace hD : va_D A [(h0, .inl (cI, 61, .inl (upd r (Int32.toNatClampNeg (r63 + (3 : Int32))) r71)))] := hD
          refine lv_iload_n hx hb dX4_day_75 rfl (lv_at hl 0 rfl) ?_
          refine lv_bipush (v := 10) hx hb dX4_day_76 (by decide) ?_
          refine lv_icmp_lt (tgt := 91) hx hb dX4_day_78 (by decide) (fun c78 => ?_) (fun c78 => ?_)
          · replace h := fx_ite_t c78 h
            refine lv_iinc (v := (x2 + 1)) (lv' := [(2, .int (x2 + 1)), (3, .int ((r (Int32.toNatClampNeg (r29 + (3 : Int32)))) + (x1 * r55))), (0, .ref h0), (1, .int x1)]) hx hb dX4_day_91 hl (k := 3) rfl (by first | rfl | decide) (by decide) rfl (fun ls hl => ?_)
            refine lv_goto (tgt := 9) hx hb dX4_day_94 (by decide) ?_
            exact ih _ _ _ h  _ _ _ hP hD hS (lv_sub hl [2, 3, 0] rfl)
          · replace h := fx_ite_f c78 h
            refine lv_aload_n hx hb dX4_day_81 rfl (lv_at hl 1 rfl) ?_
            refine lv_iload_n hx hb dX4_day_82 rfl (lv_at hl 3 rfl) ?_
            obtain ⟨r83, q83, h⟩ := bnd1_inv h
            refine kSI (n := 1) (As := [.int x2]) (rest := [.ref h0]) CF hl hK hP hD hS hA (c_X4_ofT l D cI   x2 r83 q83) gX4_day_X4_ofT rfl dX4_day_83 (by decide +kernel) ⟨⟨rfl, rfl⟩, ⟨Nat.le_of_ble_eq_true rfl, Nat.le_of_ble_eq_true rfl⟩, Nat.zero_le _, Nat.zero_le _⟩ (JN.ro [] rfl rfl) rfl rfl (Nat.le_of_ble_eq_true rfl) (fun H locs hP hD hS => ?_)
            refine lv_iconst (v := 4) hx hb dX4_day_86 (by decide) ?_
            refine lv_iadd hx hb dX4_day_87 ?_
            refine lv_bipush (v := (-8)) hx hb dX4_day_88 (by decide) ?_
            obtain ⟨g90, h⟩ := chk_inv h
            refine va_iast (n := 61) (f := (upd r (Int32.toNatClampNeg (r63 + (3 : Int32))) r71)) hx hb hK hP hD hS 0 0 rfl rfl g90 dX4_day_90 (fun H locs hP hD hS => ?_)
            replace hP : va_P D vwCl [(h0, .inl (cI, 61, .inl (upd (upd r (Int32.toNatClampNeg (r63 + (3 : Int32))) r71) (Int32.toNatClampNeg (r83 + (4 : Int32))) (-8 : Int32))))] H := hP
            replace hD : va_D A [(h0, .inl (cI, 61, .inl (upd (upd r (Int32.toNatClampNeg (r63 + (3 : Int32))) r71) (Int32.toNatClampNeg (r83 + (4 : Int32))) (-8 : Int32))))] := hD
            refine lv_iinc (v := (x2 + 1)) (lv' := [(2, .int (x2 + 1)), (3, .int ((r (Int32.toNatClampNeg (r29 + (3 : Int32)))) + (x1 * r55))), (0, .ref h0), (1, .int x1)]) hx hb dX4_day_91 hl (k := 3) rfl (by first | rfl | decide) (by decide) rfl (fun ls hl => ?_)
            refine lv_goto (tgt := 9) hx hb dX4_day_94 (by decide) ?_
            exact ih _ _ _ h  _ _ _ hP hD hS (lv_sub hl [2, 3, 0] rfl)
        · replace h := fx_ite_t c21 h
          refine lv_goto (tgt := 91) hx hb dX4_day_24 (by decide) ?_
          refine lv_iinc (v := (x2 + 1)) (lv' := [(2, .int (x2 + 1)), (0, .ref h0), (1, .int x1)]) hx hb dX4_day_91 hl (k := 2) rfl (by first | rfl | decide) (by decide) rfl (fun ls hl => ?_)
          refine lv_goto (tgt := 9) hx hb dX4_day_94 (by decide) ?_
          exact ih _ _ _ h  _ _ _ hP hD hS (lv_sub hl [1, 2, 0] rfl)
  unfold M_X4_day at h
  refine lv_aload_n hx hb dX4_day_0 rfl (lv_at hl 0 rfl) ?_
  refine lv_iconst (v := 2) hx hb dX4_day_1 (by decide) ?_
  refine lv_dup2_11 hx hb dX4_day_2 rfl rfl ?_
  refine ald (n := 61) (f := r) (k := 2) hx hb hK hP 0 0 rfl rfl (fx_lit rfl) rfl dX4_day_3 ?_
  refine lv_iconst (v := 1) hx hb dX4_day_4 (by decide) ?_
  refine lv_iadd hx hb dX4_day_5 ?_
  refine ast (n := 61) (f := r) (k := 2) hx hb hK hP hD hS 0 0 rfl rfl (fx_lit rfl) rfl dX4_day_6 (fun H locs hP hD hS => ?_)
  replace hP : va_P D vwCl [(h0, .inl (cI, 61, .inl (upd r 2 ((r 2) + (1 : Int32)))))] H := hP
  replace hD : va_D A [(h0, .inl (cI, 61, .inl (upd r 2 ((r 2) + (1 : Int32)))))] := hD
  refine lv_iconst (v := 0) hx hb dX4_day_7 (by decide) ?_
  refine lv_istore_n (lv' := [(2, .int (0 : Int32)), (0, .ref h0), (1, .int p1)]) hx hb dX4_day_8 rfl hl (by decide) rfl (fun ls hl => ?_)
  exact L9 FU _ _ _ h  _ _ _ hP hD hS (lv_sub hl [1, 2, 0] rfl)
/-! X4_daysOn -/
set_option maxHeartbeats 4000000 in
set_option maxRecDepth 100000 in
theorem c_X4_daysOn (l : Launch) (D : va_G) (cI : ClassId) (h0 : Nat) (r : (Nat → Int32)) (p1 : Int32) (u_r : (Nat → Int32)) (h : M_X4_daysOn r p1 = some u_r) : mV l yX4_daysOn wsX4_daysOn { frames := 6, cells := 0, slots := 0, locals := 132 } D cI [.ref h0, .int p1] [(h0, .inl (cI, 61, .inl r))] [(h0, .inl (cI, 61, .inl u_r))] := by
  intro sz
  refine mStart (cc := cX4_daysOn) (maxL := 3) (ret := none) (own := RX4) (by decide) rfl rfl (Nat.le_of_ble_eq_true rfl) (lv := [(0, .ref h0), (1, .int p1)]) rfl ?_
  intro p e s m args below meth c A ls Q H locs CF hr hlocks hK hP hD hS hA hAe hl hQ
  obtain ⟨hx, hb, hml, hown, hts⟩ := id CF
  have L2 : ∀ (n : Nat) (x1 : Int32) (x2 : Int32) (r : (Nat → Int32)), fuel (fun _ _ => none) (B_X4_daysOn_2 x1) n x2 r = some u_r → 
      ∀ (H : Heap) (locs : List Loc) (ls : Array Slot), va_P D vwCl [(h0, .inl (cI, 61, .inl r))] H → va_D A [(h0, .inl (cI, 61, .inl r))] → va_S A s.heap H locs → lv_has ls 3 [(0, .ref h0), (1, .int x1), (2, .int x2)] → W p l e { frames := 6, cells := 0, slots := 0, locals := 132 } s m args below meth c H locs 0 0 Q (F0 m 2 ls []) := by
    intro n
    induction n with
    | zero =>
      intro x1 x2 r h
      exact nomatch (show (none : Option ((Nat → Int32))) = some u_r from h)
    | succ n ih =>
      intro x1 x2 r h  H locs ls hP hD hS hl
      replace h : B_X4_daysOn_2 x1 (fuel (fun _ _ => none) (B_X4_daysOn_2 x1) n) x2 r = some u_r := h
      unfold B_X4_daysOn_2 at h
      refine lv_iload_n hx hb dX4_daysOn_2 rfl (lv_at hl 2 rfl) ?_
      refine lv_iload_n hx hb dX4_daysOn_3 rfl (lv_at hl 1 rfl) ?_
      refine lv_icmp_ge (tgt := 18) hx hb dX4_daysOn_4 (by decide) (fun c4 => ?_) (fun c4 => ?_)
      · replace h := fx_ite_t c4 h
        obtain rfl := rtv1 h
        exact rV hQ hx hb hr hlocks hAe hP hS dX4_daysOn_18
      · replace h := fx_ite_f c4 h
        refine lv_aload_n hx hb dX4_daysOn_7 rfl (lv_at hl 0 rfl) ?_
        refine lv_iconst (v := 1) hx hb dX4_daysOn_8 (by decide) ?_
        obtain ⟨u9_r, q9, h⟩ := bnd1_inv h
        refine kSV (n := 2) (As := [.ref h0, .int (1 : Int32)]) (rest := []) CF hl hK hP hD hS hA (c_X4_day l D cI h0 r (1 : Int32) u9_r q9) gX4_daysOn_X4_day rfl dX4_daysOn_9 (by decide +kernel) ⟨⟨rfl, rfl⟩, ⟨Nat.le_of_ble_eq_true rfl, Nat.le_of_ble_eq_true rfl⟩, Nat.zero_le _, Nat.zero_le _⟩ (JN.whole (w1 := [(h0, .inl (cI, 61, .inl u9_r))]) rfl) rfl rfl (Nat.le_of_ble_eq_true rfl) (fun H locs hP hD hS => ?_)
        replace hP : va_P D vwCl [(h0, .inl (cI, 61, .inl u9_r))] H := hP
        replace hD : va_D A [(h0, .inl (cI, 61, .inl u9_r))] := hD
        refine lv_iinc (v := (x2 + 1)) (lv' := [(2, .int (x2 + 1)), (0, .ref h0), (1, .int x1)]) hx hb dX4_daysOn_12 hl (k := 2) rfl (by first | rfl | decide) (by decide) rfl (fun ls hl => ?_)
        refine lv_goto (tgt := 2) hx hb dX4_daysOn_15 (by decide) ?_
        exact ih _ _ _ h  _ _ _ hP hD hS (lv_sub hl [1, 2, 0] rfl)
  unfold M_X4_daysOn at h
  refine lv_iconst (v := 0) hx hb dX4_daysOn_0 (by decide) ?_
  refine lv_istore_n (lv' := [(2, .int (0 : Int32)), (0, .ref h0), (1, .int p1)]) hx hb dX4_daysOn_1 rfl hl (by decide) rfl (fun ls hl => ?_)
  exact L2 FU _ _ _ h  _ _ _ hP hD hS (lv_sub hl [1, 2, 0] rfl)
/-! X4_wholeSet -/
set_option maxHeartbeats 4000000 in
set_option maxRecDepth 100000 in
theorem c_X4_wholeSet (l : Launch) (D : va_G) (cI : ClassId) (h0 : Nat) (r : (Nat → Int32))  (res : Int32) (h : M_X4_wholeSet r = some res) : mI l yX4_wholeSet wsX4_wholeSet { frames := 2, cells := 0, slots := 0, locals := 41 } D cI [.ref h0] [(h0, .inl (cI, 61, .inl r))] [(h0, .inl (cI, 61, .inl r))] res := by
  intro sz
  refine mStart (cc := cX4_wholeSet) (maxL := 3) (ret := (some .int)) (own := RX4) (by decide) rfl rfl (Nat.le_of_ble_eq_true rfl) (lv := [(0, .ref h0)]) rfl ?_
  intro p e s m args below meth c A ls Q H locs CF hr hlocks hK hP hD hS hA hAe hl hQ
  obtain ⟨hx, hb, hml, hown, hts⟩ := id CF
  have L4 : ∀ (n : Nat)  (x1 : Int32) (x2 : Int32), fuel (fun _ _ => none) (B_X4_wholeSet_4 r) n x1 x2 = some res → 
      ∀ (H : Heap) (locs : List Loc) (ls : Array Slot), va_P D vwCl [(h0, .inl (cI, 61, .inl r))] H → va_D A [(h0, .inl (cI, 61, .inl r))] → va_S A s.heap H locs → lv_has ls 3 [(0, .ref h0), (1, .int x1), (2, .int x2)] → W p l e { frames := 2, cells := 0, slots := 0, locals := 41 } s m args below meth c H locs 0 0 Q (F0 m 4 ls []) := by
    intro n
    induction n with
    | zero =>
      intro x1 x2 h
      exact nomatch (show (none : Option (Int32)) = some res from h)
    | succ n ih =>
      intro x1 x2 h  H locs ls hP hD hS hl
      replace h : B_X4_wholeSet_4 r (fuel (fun _ _ => none) (B_X4_wholeSet_4 r) n) x1 x2 = some res := h
      unfold B_X4_wholeSet_4 at h
      refine lv_iload_n hx hb dX4_wholeSet_4 rfl (lv_at hl 2 rfl) ?_
      refine lv_aload_n hx hb dX4_wholeSet_5 rfl (lv_at hl 0 rfl) ?_
      refine lv_iconst (v := 1) hx hb dX4_wholeSet_6 (by decide) ?_
      refine ald (n := 61) (f := r) (k := 1) hx hb hK hP 0 0 rfl rfl (fx_lit rfl) rfl dX4_wholeSet_7 ?_
      refine lv_icmp_ge (tgt := 35) hx hb dX4_wholeSet_8 (by decide) (fun c8 => ?_) (fun c8 => ?_)
      · replace h := fx_ite_t c8 h
        refine lv_iload_n hx hb dX4_wholeSet_35 rfl (lv_at hl 1 rfl) ?_
        obtain rfl := rtv1 h
        exact rI hQ hx hb hr hlocks hAe hP hS rfl rfl dX4_wholeSet_36
      · replace h := fx_ite_f c8 h
        refine lv_iload_n hx hb dX4_wholeSet_11 rfl (lv_at hl 1 rfl) ?_
        refine lv_aload_n hx hb dX4_wholeSet_12 rfl (lv_at hl 0 rfl) ?_
        refine lv_iload_n hx hb dX4_wholeSet_13 rfl (lv_at hl 2 rfl) ?_
        obtain ⟨r14, q14, h⟩ := bnd1_inv h
        refine kSI (n := 2) (As := [.ref h0, .int x2]) (rest := [.int x1]) CF hl hK hP hD hS hA (c_X4_isWhole l D cI h0 r x2 r14 q14) gX4_wholeSet_X4_isWhole rfl dX4_wholeSet_14 (by decide +kernel) ⟨⟨rfl, rfl⟩, ⟨Nat.le_of_ble_eq_true rfl, Nat.le_of_ble_eq_true rfl⟩, Nat.zero_le _, Nat.zero_le _⟩ (JN.whole rfl) rfl rfl (Nat.le_of_ble_eq_true rfl) (fun H locs hP hD hS => ?_)
        replace hP : va_P D vwCl [(h0, .inl (cI, 61, .inl r))] H := hP
        replace hD : va_D A [(h0, .inl (cI, 61, .inl r))] := hD
        refine lv_if_eq (tgt := 26) hx hb dX4_wholeSet_17 (by decide) (fun c17 => ?_) (fun c17 => ?_)
        · replace h := fx_ite_t c17 h
          refine lv_iconst (v := 0) hx hb dX4_wholeSet_26 (by decide) ?_
          refine lv_ior hx hb dX4_wholeSet_27 ?_
          refine lv_istore_n (lv' := [(1, .int (x1 ||| (0 : Int32))), (0, .ref h0), (2, .int x2)]) hx hb dX4_wholeSet_28 rfl hl (by decide) rfl (fun ls hl => ?_)
          refine lv_iinc (v := (x2 + 1)) (lv' := [(2, .int (x2 + 1)), (1, .int (x1 ||| (0 : Int32))), (0, .ref h0)]) hx hb dX4_wholeSet_29 hl (k := 2) rfl (by first | rfl | decide) (by decide) rfl (fun ls hl => ?_)
          refine lv_goto (tgt := 4) hx hb dX4_wholeSet_32 (by decide) ?_
          exact ih _ _ h  _ _ _ hP hD hS (lv_sub hl [2, 1, 0] rfl)
        · replace h := fx_ite_f c17 h
          refine lv_iconst (v := 1) hx hb dX4_wholeSet_20 (by decide) ?_
          refine lv_iload_n hx hb dX4_wholeSet_21 rfl (lv_at hl 2 rfl) ?_
          refine lv_ishl hx hb dX4_wholeSet_22 ?_
          refine lv_goto (tgt := 27) hx hb dX4_wholeSet_23 (by decide) ?_
          refine lv_ior hx hb dX4_wholeSet_27 ?_
          refine lv_istore_n (lv' := [(1, .int (x1 ||| ((1 : Int32) <<< (x2 &&& 31)))), (0, .ref h0), (2, .int x2)]) hx hb dX4_wholeSet_28 rfl hl (by decide) rfl (fun ls hl => ?_)
          refine lv_iinc (v := (x2 + 1)) (lv' := [(2, .int (x2 + 1)), (1, .int (x1 ||| ((1 : Int32) <<< (x2 &&& 31)))), (0, .ref h0)]) hx hb dX4_wholeSet_29 hl (k := 2) rfl (by first | rfl | decide) (by decide) rfl (fun ls hl => ?_)
          refine lv_goto (tgt := 4) hx hb dX4_wholeSet_32 (by decide) ?_
          exact ih _ _ h  _ _ _ hP hD hS (lv_sub hl [2, 1, 0] rfl)
  unfold M_X4_wholeSet at h
  refine lv_iconst (v := 0) hx hb dX4_wholeSet_0 (by decide) ?_
  refine lv_istore_n (lv' := [(1, .int (0 : Int32)), (0, .ref h0)]) hx hb dX4_wholeSet_1 rfl hl (by decide) rfl (fun ls hl => ?_)
  refine lv_iconst (v := 0) hx hb dX4_wholeSet_2 (by decide) ?_
  refine lv_istore_n (lv' := [(2, .int (0 : Int32)), (1, .int (0 : Int32)), (0, .ref h0)]) hx hb dX4_wholeSet_3 rfl hl (by decide) rfl (fun ls hl => ?_)
  exact L4 FU _ _ h  _ _ _ hP hD hS (lv_sub hl [2, 1, 0] rfl)
/-! X4_wholeBehind -/
set_option maxHeartbeats 4000000 in
set_option maxRecDepth 100000 in
theorem c_X4_wholeBehind (l : Launch) (D : va_G) (cI : ClassId) (a : Nat → Nat) (ss : (Nat → Int32)) (mm : (Nat → Int32)) (im : (Nat → Int32)) (wa : (Nat → Int32)) (hi : Int32) (le : (Nat → Int32)) (ro : (Nat → Int32)) (re : (Nat → Int32)) (lm : Int32) (rm : Int32) (pl : Int32) (nu : (Nat → Int32)) (gi : (Nat → Int32)) (bg : (Nat → Int32)) (bm : Int32) (sd : Int32) (p1 : Int32) (res : Int32) (u_mm : (Nat → Int32)) (h : M_X4_wholeBehind mm p1 = some (res, u_mm)) : mI l yX4_wholeBehind wsX4_wholeBehind { frames := 7, cells := 0, slots := 0, locals := 154 } D cI [.ref (a 0), .int p1] (cM a cI ss mm im wa hi le ro re lm rm pl nu gi bg bm sd) (cM a cI ss u_mm im wa hi le ro re lm rm pl nu gi bg bm sd) res := by
  intro sz
  refine mStart (cc := cX4_wholeBehind) (maxL := 2) (ret := (some .int)) (own := RX4) (by decide) rfl rfl (Nat.le_of_ble_eq_true rfl) (lv := [(0, .ref (a 0)), (1, .int p1)]) rfl ?_
  intro p e s m args below meth c A ls Q H locs CF hr hlocks hK hP hD hS hA hAe hl hQ
  obtain ⟨hx, hb, hml, hown, hts⟩ := id CF
  have f13 := hts (.fieldLink RX4 13 "MendAnothersBreakingModel" "m" "[I") (List.mem_of_getElem? (i := 1) rfl)
  have i4 : ∀ w ∈ wsX40, w ∈ wsX4_wholeBehind := fun w h => List.mem_cons_of_mem _ (List.mem_append_right _ h)
  unfold M_X4_wholeBehind at h
  refine lv_aload_n hx hb dX4_wholeBehind_0 rfl (lv_at hl 0 rfl) ?_
  refine va_get (D := D) (ci := 4) (v := .ref (a 2)) (C := RX4) (T := TX4) (N := 16) hx hb hts i4 hown hK hP 0 rfl rfl 1 (by decide) f13 (fun _ h9 => h9) rfl dX4_wholeBehind_1 ?_
  refine lv_iload_n hx hb dX4_wholeBehind_4 rfl (lv_at hl 1 rfl) ?_
  obtain ⟨u5_mm, q5, h⟩ := bnd1_inv h
  refine kSV (n := 2) (As := [.ref (a 2), .int p1]) (rest := []) CF hl hK hP hD hS hA (c_X4_daysOn l D cI (a 2) mm p1 u5_mm q5) gX4_wholeBehind_X4_daysOn rfl dX4_wholeBehind_5 (by decide +kernel) ⟨⟨rfl, rfl⟩, ⟨Nat.le_of_ble_eq_true rfl, Nat.le_of_ble_eq_true rfl⟩, Nat.zero_le _, Nat.zero_le _⟩ (JN.sub (wst' := (cM a cI ss u5_mm im wa hi le ro re lm rm pl nu gi bg bm sd)) [2] rfl rfl rfl rfl) rfl rfl (Nat.le_of_ble_eq_true rfl) (fun H locs hP hD hS => ?_)
  replace hP : va_P D vwCl (cM a cI ss u5_mm im wa hi le ro re lm rm pl nu gi bg bm sd) H := hP
  replace hD : va_D A (cM a cI ss u5_mm im wa hi le ro re lm rm pl nu gi bg bm sd) := hD
  refine lv_aload_n hx hb dX4_wholeBehind_8 rfl (lv_at hl 0 rfl) ?_
  refine va_get (D := D) (ci := 4) (v := .ref (a 2)) (C := RX4) (T := TX4) (N := 16) hx hb hts i4 hown hK hP 0 rfl rfl 1 (by decide) f13 (fun _ h9 => h9) rfl dX4_wholeBehind_9 ?_
  obtain ⟨r12, q12, h⟩ := bnd1_inv h
  refine kSI (n := 1) (As := [.ref (a 2)]) (rest := []) CF hl hK hP hD hS hA (c_X4_wholeSet l D cI (a 2) u5_mm  r12 q12) gX4_wholeBehind_X4_wholeSet rfl dX4_wholeBehind_12 (by decide +kernel) ⟨⟨rfl, rfl⟩, ⟨Nat.le_of_ble_eq_true rfl, Nat.le_of_ble_eq_true rfl⟩, Nat.zero_le _, Nat.zero_le _⟩ (JN.ro [2] rfl rfl) rfl rfl (Nat.le_of_ble_eq_true rfl) (fun H locs hP hD hS => ?_)
  obtain ⟨r15, q15, h⟩ := bnd1_inv h
  refine kSI (n := 1) (As := [.int r12]) (rest := []) CF hl hK hP hD hS hA (c_X4_bits l D cI   r12 r15 q15) gX4_wholeBehind_X4_bits rfl dX4_wholeBehind_15 (by decide +kernel) ⟨⟨rfl, rfl⟩, ⟨Nat.le_of_ble_eq_true rfl, Nat.le_of_ble_eq_true rfl⟩, Nat.zero_le _, Nat.zero_le _⟩ (JN.ro [] rfl rfl) rfl rfl (Nat.le_of_ble_eq_true rfl) (fun H locs hP hD hS => ?_)
  obtain ⟨rfl, rfl⟩ := rtv2 h
  exact rI hQ hx hb hr hlocks hAe hP hS rfl rfl dX4_wholeBehind_18
/-! X4_mendedAll -/
set_option maxHeartbeats 4000000 in
set_option maxRecDepth 100000 in
theorem c_X4_mendedAll (l : Launch) (D : va_G) (cI : ClassId) (h0 : Nat) (r : (Nat → Int32))  (res : Int32) (h : M_X4_mendedAll r = some res) : mI l yX4_mendedAll wsX4_mendedAll { frames := 1, cells := 0, slots := 0, locals := 20 } D cI [.ref h0] [(h0, .inl (cI, 61, .inl r))] [(h0, .inl (cI, 61, .inl r))] res := by
  intro sz
  refine mStart (cc := cX4_mendedAll) (maxL := 3) (ret := (some .int)) (own := RX4) (by decide) rfl rfl (Nat.le_of_ble_eq_true rfl) (lv := [(0, .ref h0)]) rfl ?_
  intro p e s m args below meth c A ls Q H locs CF hr hlocks hK hP hD hS hA hAe hl hQ
  obtain ⟨hx, hb, hml, hown, hts⟩ := id CF
  have L4 : ∀ (n : Nat)  (x1 : Int32) (x2 : Int32), fuel (fun _ _ => none) (B_X4_mendedAll_4 r) n x1 x2 = some res → 
      ∀ (H : Heap) (locs : List Loc) (ls : Array Slot), va_P D vwCl [(h0, .inl (cI, 61, .inl r))] H → va_D A [(h0, .inl (cI, 61, .inl r))] → va_S A s.heap H locs → lv_has ls 3 [(0, .ref h0), (1, .int x1), (2, .int x2)] → W p l e { frames := 1, cells := 0, slots := 0, locals := 20 } s m args below meth c H locs 0 0 Q (F0 m 4 ls []) := by
    intro n
    induction n with
    | zero =>
      intro x1 x2 h
      exact nomatch (show (none : Option (Int32)) = some res from h)
    | succ n ih =>
      intro x1 x2 h  H locs ls hP hD hS hl
      replace h : B_X4_mendedAll_4 r (fuel (fun _ _ => none) (B_X4_mendedAll_4 r) n) x1 x2 = some res := h
      unfold B_X4_mendedAll_4 at h
      refine lv_iload_n hx hb dX4_mendedAll_4 rfl (lv_at hl 2 rfl) ?_
      refine lv_aload_n hx hb dX4_mendedAll_5 rfl (lv_at hl 0 rfl) ?_
      refine lv_iconst (v := 0) hx hb dX4_mendedAll_6 (by decide) ?_
      refine ald (n := 61) (f := r) (k := 0) hx hb hK hP 0 0 rfl rfl (fx_lit rfl) rfl dX4_mendedAll_7 ?_
      refine lv_icmp_ge (tgt := 28) hx hb dX4_mendedAll_8 (by decide) (fun c8 => ?_) (fun c8 => ?_)
      · replace h := fx_ite_t c8 h
        refine lv_iload_n hx hb dX4_mendedAll_28 rfl (lv_at hl 1 rfl) ?_
        obtain rfl := rtv1 h
        exact rI hQ hx hb hr hlocks hAe hP hS rfl rfl dX4_mendedAll_29
      · replace h := fx_ite_f c8 h
        refine lv_iload_n hx hb dX4_mendedAll_11 rfl (lv_at hl 1 rfl) ?_
        refine lv_aload_n hx hb dX4_mendedAll_12 rfl (lv_at hl 0 rfl) ?_
        refine lv_iload_n hx hb dX4_mendedAll_13 rfl (lv_at hl 2 rfl) ?_
        obtain ⟨r14, q14, h⟩ := bnd1_inv h
        refine kSI (n := 1) (As := [.int x2]) (rest := [.ref h0, .int x1]) CF hl hK hP hD hS hA (c_X4_ofP l D cI   x2 r14 q14) gX4_mendedAll_X4_ofP rfl dX4_mendedAll_14 (by decide +kernel) ⟨⟨rfl, rfl⟩, ⟨Nat.le_of_ble_eq_true rfl, Nat.le_of_ble_eq_true rfl⟩, Nat.zero_le _, Nat.zero_le _⟩ (JN.ro [] rfl rfl) rfl rfl (Nat.le_of_ble_eq_true rfl) (fun H locs hP hD hS => ?_)
        refine lv_iconst (v := 1) hx hb dX4_mendedAll_17 (by decide) ?_
        refine lv_iadd hx hb dX4_mendedAll_18 ?_
        obtain ⟨g19, h⟩ := chk_inv h
        refine va_iald (n := 61) (f := r) hx hb hK hP 0 0 rfl rfl g19 dX4_mendedAll_19 ?_
        refine lv_iadd hx hb dX4_mendedAll_20 ?_
        refine lv_istore_n (lv' := [(1, .int (x1 + (r (Int32.toNatClampNeg (r14 + (1 : Int32)))))), (0, .ref h0), (2, .int x2)]) hx hb dX4_mendedAll_21 rfl hl (by decide) rfl (fun ls hl => ?_)
        refine lv_iinc (v := (x2 + 1)) (lv' := [(2, .int (x2 + 1)), (1, .int (x1 + (r (Int32.toNatClampNeg (r14 + (1 : Int32)))))), (0, .ref h0)]) hx hb dX4_mendedAll_22 hl (k := 2) rfl (by first | rfl | decide) (by decide) rfl (fun ls hl => ?_)
        refine lv_goto (tgt := 4) hx hb dX4_mendedAll_25 (by decide) ?_
        exact ih _ _ h  _ _ _ hP hD hS (lv_sub hl [2, 1, 0] rfl)
  unfold M_X4_mendedAll at h
  refine lv_iconst (v := 0) hx hb dX4_mendedAll_0 (by decide) ?_
  refine lv_istore_n (lv' := [(1, .int (0 : Int32)), (0, .ref h0)]) hx hb dX4_mendedAll_1 rfl hl (by decide) rfl (fun ls hl => ?_)
  refine lv_iconst (v := 0) hx hb dX4_mendedAll_2 (by decide) ?_
  refine lv_istore_n (lv' := [(2, .int (0 : Int32)), (1, .int (0 : Int32)), (0, .ref h0)]) hx hb dX4_mendedAll_3 rfl hl (by decide) rfl (fun ls hl => ?_)
  exact L4 FU _ _ h  _ _ _ hP hD hS (lv_sub hl [2, 1, 0] rfl)
/-! X4_letter -/
set_option maxHeartbeats 4000000 in
set_option maxRecDepth 100000 in
theorem c_X4_letter (l : Launch) (D : va_G) (cI : ClassId) (a : Nat → Nat) (ss : (Nat → Int32)) (mm : (Nat → Int32)) (im : (Nat → Int32)) (wa : (Nat → Int32)) (hi : Int32) (le : (Nat → Int32)) (ro : (Nat → Int32)) (re : (Nat → Int32)) (lm : Int32) (rm : Int32) (pl : Int32) (nu : (Nat → Int32)) (gi : (Nat → Int32)) (bg : (Nat → Int32)) (bm : Int32) (sd : Int32) (p1 : Int32) (res : Int32) (u_le : (Nat → Int32)) (u_re : (Nat → Int32)) (u_lm : Int32) (h : M_X4_letter le re lm p1 = some (res, u_le, u_re, u_lm)) : mI l yX4_letter wsX4_letter { frames := 1, cells := 0, slots := 0, locals := 21 } D cI [.ref (a 0), .int p1] (cM a cI ss mm im wa hi le ro re lm rm pl nu gi bg bm sd) (cM a cI ss mm im wa hi u_le ro u_re u_lm rm pl nu gi bg bm sd) res := by
  intro sz
  refine mStart (cc := cX4_letter) (maxL := 2) (ret := (some .int)) (own := RX4) (by decide) rfl rfl (Nat.le_of_ble_eq_true rfl) (lv := [(0, .ref (a 0)), (1, .int p1)]) rfl ?_
  intro p e s m args below meth c A ls Q H locs CF hr hlocks hK hP hD hS hA hAe hl hQ
  obtain ⟨hx, hb, hml, hown, hts⟩ := id CF
  have f22 := hts (.fieldLink RX4 22 "MendAnothersBreakingModel" "letters" "[I") (List.mem_of_getElem? (i := 2) rfl)
  have f101 := hts (.fieldLink RX4 101 "MendAnothersBreakingModel" "letterMany" "I") (List.mem_of_getElem? (i := 1) rfl)
  have i4 : ∀ w ∈ wsX40, w ∈ wsX4_letter := fun w h => List.mem_cons_of_mem _ (List.mem_append_right _ h)
  unfold M_X4_letter at h
  refine lv_iload_n hx hb dX4_letter_0 rfl (lv_at hl 1 rfl) ?_
  refine lv_if_ge (tgt := 11) hx hb dX4_letter_1 (by decide) (fun c1 => ?_) (fun c1 => ?_)
  · replace h := fx_ite_t c1 h
    refine lv_iload_n hx hb dX4_letter_11 rfl (lv_at hl 1 rfl) ?_
    refine lv_sipush (v := 255) hx hb dX4_letter_12 (by decide) ?_
    refine lv_icmp_gt (tgt := 27) hx hb dX4_letter_15 (by decide) (fun c15 => ?_) (fun c15 => ?_)
    · replace h := fx_ite_t c15 h
      refine lv_aload_n hx hb dX4_letter_27 rfl (lv_at hl 0 rfl) ?_
      refine lv_bipush (v := (-6)) hx hb dX4_letter_28 (by decide) ?_
      obtain ⟨r30, u30_re, q30, h⟩ := bnd2_inv h
      refine kVI (n := 1) (As := [.int (-6 : Int32)]) (rest := []) CF hl hK hP hD hS hA (c_X4_no l D cI a ss mm im wa hi le ro re lm rm pl nu gi bg bm sd (-6 : Int32) r30 u30_re q30) gX4_letter_X4_no rfl dX4_letter_30 (by decide +kernel) ⟨⟨rfl, rfl⟩, ⟨Nat.le_of_ble_eq_true rfl, Nat.le_of_ble_eq_true rfl⟩, Nat.zero_le _, Nat.zero_le _⟩ (JN.whole (w1 := (cM a cI ss mm im wa hi le ro u30_re lm rm pl nu gi bg bm sd)) rfl) 0 rfl ⟨rfl, rfl⟩ rfl rfl (Nat.le_of_ble_eq_true rfl) (fun H locs hP hD hS => ?_)
      replace hP : va_P D vwCl (cM a cI ss mm im wa hi le ro u30_re lm rm pl nu gi bg bm sd) H := hP
      replace hD : va_D A (cM a cI ss mm im wa hi le ro u30_re lm rm pl nu gi bg bm sd) := hD
      obtain ⟨rfl, rfl, rfl, rfl⟩ := rtv4 h
      exact rI hQ hx hb hr hlocks hAe hP hS rfl rfl dX4_letter_33
    · replace h := fx_ite_f c15 h
      refine lv_aload_n hx hb dX4_letter_18 rfl (lv_at hl 0 rfl) ?_
      refine va_get (D := D) (ci := 4) (v := .int lm) (C := RX4) (T := TX4) (N := 16) hx hb hts i4 hown hK hP 0 rfl rfl 8 (by decide) f101 (fun _ h9 => h9) rfl dX4_letter_19 ?_
      refine lv_bipush (v := 96) hx hb dX4_letter_22 (by decide) ?_
      refine lv_icmp_ne (tgt := 34) hx hb dX4_letter_24 (by decide) (fun c24 => ?_) (fun c24 => ?_)
      · replace h := fx_ite_f c24 h
        refine lv_aload_n hx hb dX4_letter_34 rfl (lv_at hl 0 rfl) ?_
        refine va_get (D := D) (ci := 4) (v := .ref (a 5)) (C := RX4) (T := TX4) (N := 16) hx hb hts i4 hown hK hP 0 rfl rfl 5 (by decide) f22 (fun _ h9 => h9) rfl dX4_letter_35 ?_
        refine lv_aload_n hx hb dX4_letter_38 rfl (lv_at hl 0 rfl) ?_
        refine va_get (D := D) (ci := 4) (v := .int lm) (C := RX4) (T := TX4) (N := 16) hx hb hts i4 hown hK hP 0 rfl rfl 8 (by decide) f101 (fun _ h9 => h9) rfl dX4_letter_39 ?_
        refine lv_iload_n hx hb dX4_letter_42 rfl (lv_at hl 1 rfl) ?_
        obtain ⟨g43, h⟩ := chk_inv h
        refine va_iast (n := 96) (f := le) hx hb hK hP hD hS 5 0 rfl rfl g43 dX4_letter_43 (fun H locs hP hD hS => ?_)
        replace hP : va_P D vwCl (cM a cI ss mm im wa hi (upd le (Int32.toNatClampNeg lm) p1) ro re lm rm pl nu gi bg bm sd) H := hP
        replace hD : va_D A (cM a cI ss mm im wa hi (upd le (Int32.toNatClampNeg lm) p1) ro re lm rm pl nu gi bg bm sd) := hD
        refine lv_aload_n hx hb dX4_letter_44 rfl (lv_at hl 0 rfl) ?_
        refine lv_dup hx hb dX4_letter_45 rfl ?_
        refine va_get (D := D) (ci := 4) (v := .int lm) (C := RX4) (T := TX4) (N := 16) hx hb hts i4 hown hK hP 0 rfl rfl 8 (by decide) f101 (fun _ h9 => h9) rfl dX4_letter_46 ?_
        refine lv_iconst (v := 1) hx hb dX4_letter_49 (by decide) ?_
        refine lv_iadd hx hb dX4_letter_50 ?_
        refine va_put (D := D) (ci := 4) (v := .int (lm + (1 : Int32))) (ty := .int) (C := RX4) (T := TX4) (N := 16) hx hb hts i4 tyX4 tyX4_ok nmX4 hown hK hP hD hS 0 rfl rfl 8 (by decide) f101 (fun _ h9 => h9) rfl (by decide +kernel) rfl rfl (Nat.le_of_ble_eq_true rfl) dX4_letter_51 (fun H locs hP hD hS => ?_)
        replace hP : va_P D vwCl (cM a cI ss mm im wa hi (upd le (Int32.toNatClampNeg lm) p1) ro re (lm + (1 : Int32)) rm pl nu gi bg bm sd) H := hP
        replace hD : va_D A (cM a cI ss mm im wa hi (upd le (Int32.toNatClampNeg lm) p1) ro re (lm + (1 : Int32)) rm pl nu gi bg bm sd) := hD
        refine lv_aload_n hx hb dX4_letter_54 rfl (lv_at hl 0 rfl) ?_
        refine va_get (D := D) (ci := 4) (v := .int (lm + (1 : Int32))) (C := RX4) (T := TX4) (N := 16) hx hb hts i4 hown hK hP 0 rfl rfl 8 (by decide) f101 (fun _ h9 => h9) rfl dX4_letter_55 ?_
        obtain ⟨rfl, rfl, rfl, rfl⟩ := rtv4 h
        exact rI hQ hx hb hr hlocks hAe hP hS rfl rfl dX4_letter_58
      · replace h := fx_ite_t c24 h
        refine lv_aload_n hx hb dX4_letter_27 rfl (lv_at hl 0 rfl) ?_
        refine lv_bipush (v := (-6)) hx hb dX4_letter_28 (by decide) ?_
        obtain ⟨r30, u30_re, q30, h⟩ := bnd2_inv h
        refine kVI (n := 1) (As := [.int (-6 : Int32)]) (rest := []) CF hl hK hP hD hS hA (c_X4_no l D cI a ss mm im wa hi le ro re lm rm pl nu gi bg bm sd (-6 : Int32) r30 u30_re q30) gX4_letter_X4_no rfl dX4_letter_30 (by decide +kernel) ⟨⟨rfl, rfl⟩, ⟨Nat.le_of_ble_eq_true rfl, Nat.le_of_ble_eq_true rfl⟩, Nat.zero_le _, Nat.zero_le _⟩ (JN.whole (w1 := (cM a cI ss mm im wa hi le ro u30_re lm rm pl nu gi bg bm sd)) rfl) 0 rfl ⟨rfl, rfl⟩ rfl rfl (Nat.le_of_ble_eq_true rfl) (fun H locs hP hD hS => ?_)
        replace hP : va_P D vwCl (cM a cI ss mm im wa hi le ro u30_re lm rm pl nu gi bg bm sd) H := hP
        replace hD : va_D A (cM a cI ss mm im wa hi le ro u30_re lm rm pl nu gi bg bm sd) := hD
        obtain ⟨rfl, rfl, rfl, rfl⟩ := rtv4 h
        exact rI hQ hx hb hr hlocks hAe hP hS rfl rfl dX4_letter_33
  · replace h := fx_ite_f c1 h
    refine lv_aload_n hx hb dX4_letter_4 rfl (lv_at hl 0 rfl) ?_
    refine lv_bipush (v := (-4)) hx hb dX4_letter_5 (by decide) ?_
    obtain ⟨r7, u7_re, q7, h⟩ := bnd2_inv h
    refine kVI (n := 1) (As := [.int (-4 : Int32)]) (rest := []) CF hl hK hP hD hS hA (c_X4_no l D cI a ss mm im wa hi le ro re lm rm pl nu gi bg bm sd (-4 : Int32) r7 u7_re q7) gX4_letter_X4_no rfl dX4_letter_7 (by decide +kernel) ⟨⟨rfl, rfl⟩, ⟨Nat.le_of_ble_eq_true rfl, Nat.le_of_ble_eq_true rfl⟩, Nat.zero_le _, Nat.zero_le _⟩ (JN.whole (w1 := (cM a cI ss mm im wa hi le ro u7_re lm rm pl nu gi bg bm sd)) rfl) 0 rfl ⟨rfl, rfl⟩ rfl rfl (Nat.le_of_ble_eq_true rfl) (fun H locs hP hD hS => ?_)
    replace hP : va_P D vwCl (cM a cI ss mm im wa hi le ro u7_re lm rm pl nu gi bg bm sd) H := hP
    replace hD : va_D A (cM a cI ss mm im wa hi le ro u7_re lm rm pl nu gi bg bm sd) := hD
    obtain ⟨rfl, rfl, rfl, rfl⟩ := rtv4 h
    exact rI hQ hx hb hr hlocks hAe hP hS rfl rfl dX4_letter_10
/-! X4_here -/
set_option maxHeartbeats 4000000 in
set_option maxRecDepth 100000 in
theorem c_X4_here (l : Launch) (D : va_G) (cI : ClassId) (a : Nat → Nat) (ss : (Nat → Int32)) (mm : (Nat → Int32)) (im : (Nat → Int32)) (wa : (Nat → Int32)) (hi : Int32) (le : (Nat → Int32)) (ro : (Nat → Int32)) (re : (Nat → Int32)) (lm : Int32) (rm : Int32) (pl : Int32) (nu : (Nat → Int32)) (gi : (Nat → Int32)) (bg : (Nat → Int32)) (bm : Int32) (sd : Int32)  (res : Int32) (h : M_X4_here le lm pl = some res) : mI l yX4_here wsX4_here { frames := 0, cells := 0, slots := 0, locals := 0 } D cI [.ref (a 0)] (cM a cI ss mm im wa hi le ro re lm rm pl nu gi bg bm sd) (cM a cI ss mm im wa hi le ro re lm rm pl nu gi bg bm sd) res := by
  intro sz
  refine mStart (cc := cX4_here) (maxL := 1) (ret := (some .int)) (own := RX4) (by decide) rfl rfl (Nat.le_of_ble_eq_true rfl) (lv := [(0, .ref (a 0))]) rfl ?_
  intro p e s m args below meth c A ls Q H locs CF hr hlocks hK hP hD hS hA hAe hl hQ
  obtain ⟨hx, hb, hml, hown, hts⟩ := id CF
  have f22 := hts (.fieldLink RX4 22 "MendAnothersBreakingModel" "letters" "[I") (List.mem_of_getElem? (i := 3) rfl)
  have f101 := hts (.fieldLink RX4 101 "MendAnothersBreakingModel" "letterMany" "I") (List.mem_of_getElem? (i := 2) rfl)
  have f105 := hts (.fieldLink RX4 105 "MendAnothersBreakingModel" "place" "I") (List.mem_of_getElem? (i := 1) rfl)
  have i4 : ∀ w ∈ wsX40, w ∈ wsX4_here := fun w h => List.mem_cons_of_mem _ (List.mem_append_right _ h)
  unfold M_X4_here at h
  refine lv_aload_n hx hb dX4_here_0 rfl (lv_at hl 0 rfl) ?_
  refine va_get (D := D) (ci := 4) (v := .int pl) (C := RX4) (T := TX4) (N := 16) hx hb hts i4 hown hK hP 0 rfl rfl 10 (by decide) f105 (fun _ h9 => h9) rfl dX4_here_1 ?_
  refine lv_aload_n hx hb dX4_here_4 rfl (lv_at hl 0 rfl) ?_
  refine va_get (D := D) (ci := 4) (v := .int lm) (C := RX4) (T := TX4) (N := 16) hx hb hts i4 hown hK hP 0 rfl rfl 8 (by decide) f101 (fun _ h9 => h9) rfl dX4_here_5 ?_
  refine lv_icmp_ge (tgt := 23) hx hb dX4_here_8 (by decide) (fun c8 => ?_) (fun c8 => ?_)
  · replace h := fx_ite_t c8 h
    refine lv_iconst (v := (-1)) hx hb dX4_here_23 (by decide) ?_
    obtain rfl := rtv1 h
    exact rI hQ hx hb hr hlocks hAe hP hS rfl rfl dX4_here_24
  · replace h := fx_ite_f c8 h
    refine lv_aload_n hx hb dX4_here_11 rfl (lv_at hl 0 rfl) ?_
    refine va_get (D := D) (ci := 4) (v := .ref (a 5)) (C := RX4) (T := TX4) (N := 16) hx hb hts i4 hown hK hP 0 rfl rfl 5 (by decide) f22 (fun _ h9 => h9) rfl dX4_here_12 ?_
    refine lv_aload_n hx hb dX4_here_15 rfl (lv_at hl 0 rfl) ?_
    refine va_get (D := D) (ci := 4) (v := .int pl) (C := RX4) (T := TX4) (N := 16) hx hb hts i4 hown hK hP 0 rfl rfl 10 (by decide) f105 (fun _ h9 => h9) rfl dX4_here_16 ?_
    obtain ⟨g19, h⟩ := chk_inv h
    refine va_iald (n := 96) (f := le) hx hb hK hP 5 0 rfl rfl g19 dX4_here_19 ?_
    refine lv_goto (tgt := 24) hx hb dX4_here_20 (by decide) ?_
    obtain rfl := rtv1 h
    exact rI hQ hx hb hr hlocks hAe hP hS rfl rfl dX4_here_24
/-! X4_readsNumber -/
set_option maxHeartbeats 4000000 in
set_option maxRecDepth 100000 in
theorem c_X4_readsNumber (l : Launch) (D : va_G) (cI : ClassId) (a : Nat → Nat) (ss : (Nat → Int32)) (mm : (Nat → Int32)) (im : (Nat → Int32)) (wa : (Nat → Int32)) (hi : Int32) (le : (Nat → Int32)) (ro : (Nat → Int32)) (re : (Nat → Int32)) (lm : Int32) (rm : Int32) (pl : Int32) (nu : (Nat → Int32)) (gi : (Nat → Int32)) (bg : (Nat → Int32)) (bm : Int32) (sd : Int32) (p1 : Int32) (p2 : Int32) (res : Int32) (u_pl : Int32) (u_nu : (Nat → Int32)) (h : M_X4_readsNumber le lm pl nu p1 p2 = some (res, u_pl, u_nu)) : mI l yX4_readsNumber wsX4_readsNumber { frames := 1, cells := 0, slots := 0, locals := 22 } D cI [.ref (a 0), .int p1, .int p2] (cM a cI ss mm im wa hi le ro re lm rm pl nu gi bg bm sd) (cM a cI ss mm im wa hi le ro re lm rm u_pl u_nu gi bg bm sd) res := by
  intro sz
  refine mStart (cc := cX4_readsNumber) (maxL := 4) (ret := (some .boolean)) (own := RX4) (by decide) rfl rfl (Nat.le_of_ble_eq_true rfl) (lv := [(0, .ref (a 0)), (1, .int p1), (2, .int p2)]) rfl ?_
  intro p e s m args below meth c A ls Q H locs CF hr hlocks hK hP hD hS hA hAe hl hQ
  obtain ⟨hx, hb, hml, hown, hts⟩ := id CF
  have f31 := hts (.fieldLink RX4 31 "MendAnothersBreakingModel" "numbers" "[I") (List.mem_of_getElem? (i := 1) rfl)
  have f105 := hts (.fieldLink RX4 105 "MendAnothersBreakingModel" "place" "I") (List.mem_of_getElem? (i := 2) rfl)
  have i4 : ∀ w ∈ wsX40, w ∈ wsX4_readsNumber := fun w h => List.mem_cons_of_mem _ (List.mem_append_right _ h)
  have L9 : ∀ (n : Nat) (x1 : Int32) (x2 : Int32) (x3 : Int32) (pl : Int32) (nu : (Nat → Int32)), fuel (fun _ _ _ => none) (B_X4_readsNumber_9 x1 x2 le lm) n x3 pl nu = some (res, u_pl, u_nu) → 
      ∀ (H : Heap) (locs : List Loc) (ls : Array Slot), va_P D vwCl (cM a cI ss mm im wa hi le ro re lm rm pl nu gi bg bm sd) H → va_D A (cM a cI ss mm im wa hi le ro re lm rm pl nu gi bg bm sd) → va_S A s.heap H locs → lv_has ls 4 [(0, .ref (a 0)), (1, .int x1), (2, .int x2), (3, .int x3)] → W p l e { frames := 1, cells := 0, slots := 0, locals := 22 } s m args below meth c H locs 0 0 Q (F0 m 9 ls []) := by
    intro n
    induction n with
    | zero =>
      intro x1 x2 x3 pl nu h
      exact nomatch (show (none : Option (Int32 × Int32 × (Nat → Int32))) = some (res, u_pl, u_nu) from h)
    | succ n ih =>
      intro x1 x2 x3 pl nu h  H locs ls hP hD hS hl
      replace h : B_X4_readsNumber_9 x1 x2 le lm (fuel (fun _ _ _ => none) (B_X4_readsNumber_9 x1 x2 le lm) n) x3 pl nu = some (res, u_pl, u_nu) := h
      unfold B_X4_readsNumber_9 at h
      refine lv_iload_n hx hb dX4_readsNumber_9 rfl (lv_at hl 3 rfl) ?_
      refine lv_iload_n hx hb dX4_readsNumber_10 rfl (lv_at hl 2 rfl) ?_
      refine lv_icmp_ge (tgt := 69) hx hb dX4_readsNumber_11 (by decide) (fun c11 => ?_) (fun c11 => ?_)
      · replace h := fx_ite_t c11 h
        refine lv_iconst (v := 1) hx hb dX4_readsNumber_69 (by decide) ?_
        obtain ⟨rfl, rfl, rfl⟩ := rtv3 h
        exact rI hQ hx hb hr hlocks hAe hP hS rfl rfl dX4_readsNumber_70
      · replace h := fx_ite_f c11 h
        refine lv_aload_n hx hb dX4_readsNumber_14 rfl (lv_at hl 0 rfl) ?_
        obtain ⟨r15, q15, h⟩ := bnd1_inv h
        refine kVI (n := 0) (As := []) (rest := []) CF hl hK hP hD hS hA (c_X4_here l D cI a ss mm im wa hi le ro re lm rm pl nu gi bg bm sd  r15 q15) gX4_readsNumber_X4_here rfl dX4_readsNumber_15 (by decide +kernel) ⟨⟨rfl, rfl⟩, ⟨Nat.le_of_ble_eq_true rfl, Nat.le_of_ble_eq_true rfl⟩, Nat.zero_le _, Nat.zero_le _⟩ (JN.whole rfl) 0 rfl ⟨rfl, rfl⟩ rfl rfl (Nat.le_of_ble_eq_true rfl) (fun H locs hP hD hS => ?_)
        replace hP : va_P D vwCl (cM a cI ss mm im wa hi le ro re lm rm pl nu gi bg bm sd) H := hP
        replace hD : va_D A (cM a cI ss mm im wa hi le ro re lm rm pl nu gi bg bm sd) := hD
        refine lv_bipush (v := 48) hx hb dX4_readsNumber_18 (by decide) ?_
        refine lv_bipush (v := 57) hx hb dX4_readsNumber_20 (by decide) ?_
        obtain ⟨r22, q22, h⟩ := bnd1_inv h
        refine kSI (n := 3) (As := [.int r15, .int (48 : Int32), .int (57 : Int32)]) (rest := []) CF hl hK hP hD hS hA (c_X4_isIn l D cI   r15 (48 : Int32) (57 : Int32) r22 q22) gX4_readsNumber_X4_isIn rfl dX4_readsNumber_22 (by decide +kernel) ⟨⟨rfl, rfl⟩, ⟨Nat.le_of_ble_eq_true rfl, Nat.le_of_ble_eq_true rfl⟩, Nat.zero_le _, Nat.zero_le _⟩ (JN.ro [] rfl rfl) rfl rfl (Nat.le_of_ble_eq_true rfl) (fun H locs hP hD hS => ?_)
        refine lv_if_ne (tgt := 30) hx hb dX4_readsNumber_25 (by decide) (fun c25 => ?_) (fun c25 => ?_)
        · replace h := fx_ite_f c25 h
          refine lv_aload_n hx hb dX4_readsNumber_30 rfl (lv_at hl 0 rfl) ?_
          refine va_get (D := D) (ci := 4) (v := .ref (a 8)) (C := RX4) (T := TX4) (N := 16) hx hb hts i4 hown hK hP 0 rfl rfl 11 (by decide) f31 (fun _ h9 => h9) rfl dX4_readsNumber_31 ?_
          refine lv_iload_n hx hb dX4_readsNumber_34 rfl (lv_at hl 1 rfl) ?_
          refine lv_bipush (v := 10) hx hb dX4_readsNumber_35 (by decide) ?_
          refine lv_aload_n hx hb dX4_readsNumber_37 rfl (lv_at hl 0 rfl) ?_
          refine va_get (D := D) (ci := 4) (v := .ref (a 8)) (C := RX4) (T := TX4) (N := 16) hx hb hts i4 hown hK hP 0 rfl rfl 11 (by decide) f31 (fun _ h9 => h9) rfl dX4_readsNumber_38 ?_
          refine lv_iload_n hx hb dX4_readsNumber_41 rfl (lv_at hl 1 rfl) ?_
          obtain ⟨g42, h⟩ := chk_inv h
          refine va_iald (n := 3) (f := nu) hx hb hK hP 8 0 rfl rfl g42 dX4_readsNumber_42 ?_
          refine lv_imul hx hb dX4_readsNumber_43 ?_
          refine lv_aload_n hx hb dX4_readsNumber_44 rfl (lv_at hl 0 rfl) ?_
          obtain ⟨r45, q45, h⟩ := bnd1_inv h
          refine kVI (n := 0) (As := []) (rest := [.int ((10 : Int32) * (nu (Int32.toNatClampNeg x1))), .int x1, .ref (a 8)]) CF hl hK hP hD hS hA (c_X4_here l D cI a ss mm im wa hi le ro re lm rm pl nu gi bg bm sd  r45 q45) gX4_readsNumber_X4_here rfl dX4_readsNumber_45 (by decide +kernel) ⟨⟨rfl, rfl⟩, ⟨Nat.le_of_ble_eq_true rfl, Nat.le_of_ble_eq_true rfl⟩, Nat.zero_le _, Nat.zero_le _⟩ (JN.whole rfl) 0 rfl ⟨rfl, rfl⟩ rfl rfl (Nat.le_of_ble_eq_true rfl) (fun H locs hP hD hS => ?_)
          replace hP : va_P D vwCl (cM a cI ss mm im wa hi le ro re lm rm pl nu gi bg bm sd) H := hP
          replace hD : va_D A (cM a cI ss mm im wa hi le ro re lm rm pl nu gi bg bm sd) := hD
          refine lv_iadd hx hb dX4_readsNumber_48 ?_
          refine lv_bipush (v := 48) hx hb dX4_readsNumber_49 (by decide) ?_
          refine lv_isub hx hb dX4_readsNumber_51 ?_
          obtain ⟨g52, h⟩ := chk_inv h
          refine va_iast (n := 3) (f := nu) hx hb hK hP hD hS 8 0 rfl rfl g52 dX4_readsNumber_52 (fun H locs hP hD hS => ?_)
          replace hP : va_P D vwCl (cM a cI ss mm im wa hi le ro re lm rm pl (upd nu (Int32.toNatClampNeg x1) ((((10 : Int32) * (nu (Int32.toNatClampNeg x1))) + r45) - (48 : Int32))) gi bg bm sd) H := hP
          replace hD : va_D A (cM a cI ss mm im wa hi le ro re lm rm pl (upd nu (Int32.toNatClampNeg x1) ((((10 : Int32) * (nu (Int32.toNatClampNeg x1))) + r45) - (48 : Int32))) gi bg bm sd) := hD
          refine lv_aload_n hx hb dX4_readsNumber_53 rfl (lv_at hl 0 rfl) ?_
          refine lv_dup hx hb dX4_readsNumber_54 rfl ?_
          refine va_get (D := D) (ci := 4) (v := .int pl) (C := RX4) (T := TX4) (N := 16) hx hb hts i4 hown hK hP 0 rfl rfl 10 (by decide) f105 (fun _ h9 => h9) rfl dX4_readsNumber_55 ?_
          refine lv_iconst (v := 1) hx hb dX4_readsNumber_58 (by decide) ?_
          refine lv_iadd hx hb dX4_readsNumber_59 ?_
          refine va_put (D := D) (ci := 4) (v := .int (pl + (1 : Int32))) (ty := .int) (C := RX4) (T := TX4) (N := 16) hx hb hts i4 tyX4 tyX4_ok nmX4 hown hK hP hD hS 0 rfl rfl 10 (by decide) f105 (fun _ h9 => h9) rfl (by decide +kernel) rfl rfl (Nat.le_of_ble_eq_true rfl) dX4_readsNumber_60 (fun H locs hP hD hS => ?_)
          replace hP : va_P D vwCl (cM a cI ss mm im wa hi le ro re lm rm (pl + (1 : Int32)) (upd nu (Int32.toNatClampNeg x1) ((((10 : Int32) * (nu (Int32.toNatClampNeg x1))) + r45) - (48 : Int32))) gi bg bm sd) H := hP
          replace hD : va_D A (cM a cI ss mm im wa hi le ro re lm rm (pl + (1 : Int32)) (upd nu (Int32.toNatClampNeg x1) ((((10 : Int32) * (nu (Int32.toNatClampNeg x1))) + r45) - (48 : Int32))) gi bg bm sd) := hD
          refine lv_iinc (v := (x3 + 1)) (lv' := [(3, .int (x3 + 1)), (0, .ref (a 0)), (1, .int x1), (2, .int x2)]) hx hb dX4_readsNumber_63 hl (k := 3) rfl (by first | rfl | decide) (by decide) rfl (fun ls hl => ?_)
          refine lv_goto (tgt := 9) hx hb dX4_readsNumber_66 (by decide) ?_
          exact ih _ _ _ _ _ h  _ _ _ hP hD hS (lv_sub hl [1, 2, 3, 0] rfl)
        · replace h := fx_ite_t c25 h
          refine lv_iconst (v := 0) hx hb dX4_readsNumber_28 (by decide) ?_
          obtain ⟨rfl, rfl, rfl⟩ := rtv3 h
          exact rI hQ hx hb hr hlocks hAe hP hS rfl rfl dX4_readsNumber_29
  unfold M_X4_readsNumber at h
  refine lv_aload_n hx hb dX4_readsNumber_0 rfl (lv_at hl 0 rfl) ?_
  refine va_get (D := D) (ci := 4) (v := .ref (a 8)) (C := RX4) (T := TX4) (N := 16) hx hb hts i4 hown hK hP 0 rfl rfl 11 (by decide) f31 (fun _ h9 => h9) rfl dX4_readsNumber_1 ?_
  refine lv_iload_n hx hb dX4_readsNumber_4 rfl (lv_at hl 1 rfl) ?_
  refine lv_iconst (v := 0) hx hb dX4_readsNumber_5 (by decide) ?_
  obtain ⟨g6, h⟩ := chk_inv h
  refine va_iast (n := 3) (f := nu) hx hb hK hP hD hS 8 0 rfl rfl g6 dX4_readsNumber_6 (fun H locs hP hD hS => ?_)
  replace hP : va_P D vwCl (cM a cI ss mm im wa hi le ro re lm rm pl (upd nu (Int32.toNatClampNeg p1) (0 : Int32)) gi bg bm sd) H := hP
  replace hD : va_D A (cM a cI ss mm im wa hi le ro re lm rm pl (upd nu (Int32.toNatClampNeg p1) (0 : Int32)) gi bg bm sd) := hD
  refine lv_iconst (v := 0) hx hb dX4_readsNumber_7 (by decide) ?_
  refine lv_istore_n (lv' := [(3, .int (0 : Int32)), (0, .ref (a 0)), (1, .int p1), (2, .int p2)]) hx hb dX4_readsNumber_8 rfl hl (by decide) rfl (fun ls hl => ?_)
  exact L9 FU _ _ _ _ _ h  _ _ _ hP hD hS (lv_sub hl [1, 2, 3, 0] rfl)
/-! X4_kindBy -/
set_option maxHeartbeats 4000000 in
set_option maxRecDepth 100000 in
theorem c_X4_kindBy (l : Launch) (D : va_G) (cI : ClassId)   (p0 : Int32) (res : Int32) (h : M_X4_kindBy p0 = some res) : mI l yX4_kindBy wsX4_kindBy { frames := 0, cells := 0, slots := 0, locals := 0 } D cI [.int p0] [] [] res := by
  intro sz
  refine mStart (cc := cX4_kindBy) (maxL := 1) (ret := (some .int)) (own := RX4) (by decide) rfl rfl (Nat.le_of_ble_eq_true rfl) (lv := [(0, .int p0)]) rfl ?_
  intro p e s m args below meth c A ls Q H locs CF hr hlocks hK hP hD hS hA hAe hl hQ
  obtain ⟨hx, hb, hml, hown, hts⟩ := id CF
  unfold M_X4_kindBy at h
  refine lv_iload_n hx hb dX4_kindBy_0 rfl (lv_at hl 0 rfl) ?_
  by_cases s1_99 : p0 = 99
  · replace h := fx_ite_t s1_99 h
    refine lv_lookup (tgt := 62) hx hb dX4_kindBy_1 (by decide) (off := 61) (by rw [s1_99]; rfl) (by decide) ?_
    refine lv_iconst (v := 1) hx hb dX4_kindBy_62 (by decide) ?_
    obtain rfl := rtv1 h
    exact rI hQ hx hb hr hlocks hAe hP hS rfl rfl dX4_kindBy_63
  replace h := fx_ite_f s1_99 h
  by_cases s1_103 : p0 = 103
  · replace h := fx_ite_t s1_103 h
    refine lv_lookup (tgt := 64) hx hb dX4_kindBy_1 (by decide) (off := 63) (by rw [s1_103]; rfl) (by decide) ?_
    refine lv_iconst (v := 2) hx hb dX4_kindBy_64 (by decide) ?_
    obtain rfl := rtv1 h
    exact rI hQ hx hb hr hlocks hAe hP hS rfl rfl dX4_kindBy_65
  replace h := fx_ite_f s1_103 h
  by_cases s1_107 : p0 = 107
  · replace h := fx_ite_t s1_107 h
    refine lv_lookup (tgt := 68) hx hb dX4_kindBy_1 (by decide) (off := 67) (by rw [s1_107]; rfl) (by decide) ?_
    refine lv_iconst (v := 4) hx hb dX4_kindBy_68 (by decide) ?_
    obtain rfl := rtv1 h
    exact rI hQ hx hb hr hlocks hAe hP hS rfl rfl dX4_kindBy_69
  replace h := fx_ite_f s1_107 h
  by_cases s1_108 : p0 = 108
  · replace h := fx_ite_t s1_108 h
    refine lv_lookup (tgt := 70) hx hb dX4_kindBy_1 (by decide) (off := 69) (by rw [s1_108]; rfl) (by decide) ?_
    refine lv_iconst (v := 5) hx hb dX4_kindBy_70 (by decide) ?_
    obtain rfl := rtv1 h
    exact rI hQ hx hb hr hlocks hAe hP hS rfl rfl dX4_kindBy_71
  replace h := fx_ite_f s1_108 h
  by_cases s1_116 : p0 = 116
  · replace h := fx_ite_t s1_116 h
    refine lv_lookup (tgt := 60) hx hb dX4_kindBy_1 (by decide) (off := 59) (by rw [s1_116]; rfl) (by decide) ?_
    refine lv_iconst (v := 0) hx hb dX4_kindBy_60 (by decide) ?_
    obtain rfl := rtv1 h
    exact rI hQ hx hb hr hlocks hAe hP hS rfl rfl dX4_kindBy_61
  replace h := fx_ite_f s1_116 h
  by_cases s1_119 : p0 = 119
  · replace h := fx_ite_t s1_119 h
    refine lv_lookup (tgt := 66) hx hb dX4_kindBy_1 (by decide) (off := 65) (by rw [s1_119]; rfl) (by decide) ?_
    refine lv_iconst (v := 3) hx hb dX4_kindBy_66 (by decide) ?_
    obtain rfl := rtv1 h
    exact rI hQ hx hb hr hlocks hAe hP hS rfl rfl dX4_kindBy_67
  replace h := fx_ite_f s1_119 h
  refine lv_lookup (tgt := 72) hx hb dX4_kindBy_1 (by decide) (off := 71) (by have a_s1_99 : Int32.toInt p0 ≠ 99 := fx_toInt_ne s1_99; have a_s1_103 : Int32.toInt p0 ≠ 103 := fx_toInt_ne s1_103; have a_s1_107 : Int32.toInt p0 ≠ 107 := fx_toInt_ne s1_107; have a_s1_108 : Int32.toInt p0 ≠ 108 := fx_toInt_ne s1_108; have a_s1_116 : Int32.toInt p0 ≠ 116 := fx_toInt_ne s1_116; have a_s1_119 : Int32.toInt p0 ≠ 119 := fx_toInt_ne s1_119; show Op.lookupswitch.offset [(99, 61), (103, 63), (107, 67), (108, 69), (116, 59), (119, 65)] 71 (Int32.toInt p0) = 71; simp only [Op.lookupswitch.offset]; rw [if_neg (Ne.symm a_s1_99), if_neg (Ne.symm a_s1_103), if_neg (Ne.symm a_s1_107), if_neg (Ne.symm a_s1_108), if_neg (Ne.symm a_s1_116), if_neg (Ne.symm a_s1_119)]) (by decide) ?_
  refine lv_bipush (v := (-9)) hx hb dX4_kindBy_72 (by decide) ?_
  obtain rfl := rtv1 h
  exact rI hQ hx hb hr hlocks hAe hP hS rfl rfl dX4_kindBy_74
