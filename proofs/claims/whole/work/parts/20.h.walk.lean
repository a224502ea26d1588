theorem rtv1 {α1 : Type} {a1 b1 : α1} (h : some (a1) = some (b1)) : a1 = b1 := by
  exact Option.some.inj h
theorem rtv2 {α1 α2 : Type} {a1 b1 : α1} {a2 b2 : α2} (h : some (a1, a2) = some (b1, b2)) : a1 = b1 ∧ a2 = b2 := by
  injection h with h; simp only [Prod.mk.injEq] at h; exact ⟨h.1, h.2⟩
theorem rtv3 {α1 α2 α3 : Type} {a1 b1 : α1} {a2 b2 : α2} {a3 b3 : α3} (h : some (a1, a2, a3) = some (b1, b2, b3)) : a1 = b1 ∧ a2 = b2 ∧ a3 = b3 := by
  injection h with h; simp only [Prod.mk.injEq] at h; exact ⟨h.1, h.2.1, h.2.2⟩
theorem rtv4 {α1 α2 α3 α4 : Type} {a1 b1 : α1} {a2 b2 : α2} {a3 b3 : α3} {a4 b4 : α4} (h : some (a1, a2, a3, a4) = some (b1, b2, b3, b4)) : a1 = b1 ∧ a2 = b2 ∧ a3 = b3 ∧ a4 = b4 := by
  injection h with h; simp only [Prod.mk.injEq] at h; exact ⟨h.1, h.2.1, h.2.2.1, h.2.2.2⟩
theorem rtv5 {α1 α2 α3 α4 α5 : Type} {a1 b1 : α1} {a2 b2 : α2} {a3 b3 : α3} {a4 b4 : α4} {a5 b5 : α5} (h : some (a1, a2, a3, a4, a5) = some (b1, b2, b3, b4, b5)) : a1 = b1 ∧ a2 = b2 ∧ a3 = b3 ∧ a4 = b4 ∧ a5 = b5 := by
  injection h with h; simp only [Prod.mk.injEq] at h; exact ⟨h.1, h.2.1, h.2.2.1, h.2.2.2.1, h.2.2.2.2⟩
theorem rtv6 {α1 α2 α3 α4 α5 α6 : Type} {a1 b1 : α1} {a2 b2 : α2} {a3 b3 : α3} {a4 b4 : α4} {a5 b5 : α5} {a6 b6 : α6} (h : some (a1, a2, a3, a4, a5, a6) = some (b1, b2, b3, b4, b5, b6)) : a1 = b1 ∧ a2 = b2 ∧ a3 = b3 ∧ a4 = b4 ∧ a5 = b5 ∧ a6 = b6 := by
  injection h with h; simp only [Prod.mk.injEq] at h; exact ⟨h.1, h.2.1, h.2.2.1, h.2.2.2.1, h.2.2.2.2.1, h.2.2.2.2.2⟩
theorem rtv7 {α1 α2 α3 α4 α5 α6 α7 : Type} {a1 b1 : α1} {a2 b2 : α2} {a3 b3 : α3} {a4 b4 : α4} {a5 b5 : α5} {a6 b6 : α6} {a7 b7 : α7} (h : some (a1, a2, a3, a4, a5, a6, a7) = some (b1, b2, b3, b4, b5, b6, b7)) : a1 = b1 ∧ a2 = b2 ∧ a3 = b3 ∧ a4 = b4 ∧ a5 = b5 ∧ a6 = b6 ∧ a7 = b7 := by
  injection h with h; simp only [Prod.mk.injEq] at h; exact ⟨h.1, h.2.1, h.2.2.1, h.2.2.2.1, h.2.2.2.2.1, h.2.2.2.2.2.1, h.2.2.2.2.2.2⟩
theorem rtv8 {α1 α2 α3 α4 α5 α6 α7 α8 : Type} {a1 b1 : α1} {a2 b2 : α2} {a3 b3 : α3} {a4 b4 : α4} {a5 b5 : α5} {a6 b6 : α6} {a7 b7 : α7} {a8 b8 : α8} (h : some (a1, a2, a3, a4, a5, a6, a7, a8) = some (b1, b2, b3, b4, b5, b6, b7, b8)) : a1 = b1 ∧ a2 = b2 ∧ a3 = b3 ∧ a4 = b4 ∧ a5 = b5 ∧ a6 = b6 ∧ a7 = b7 ∧ a8 = b8 := by
  injection h with h; simp only [Prod.mk.injEq] at h; exact ⟨h.1, h.2.1, h.2.2.1, h.2.2.2.1, h.2.2.2.2.1, h.2.2.2.2.2.1, h.2.2.2.2.2.2.1, h.2.2.2.2.2.2.2⟩
/-! X3_judge -/
set_option maxHeartbeats 4000000 in
set_option maxRecDepth 100000 in
theorem c_X3_judge (l : Launch) (D : va_G) (cI : ClassId) (a : Nat → Nat) (no : SV) (mi : SV) (ke : SV) (hk : Int32) (sg : (Nat → Int32)) (lz : Int32) (rn : (Nat → Int32)) (rs : Int32) (rf : (Nat → Int32)) (be : (Nat → Int32)) (fh : (Nat → Int32)) (oh : (Nat → Int32))  (res : Int32) (u_mi : SV) (u_rs : Int32) (h : M_X3_judge no mi rn rs = some (res, u_mi, u_rs)) : mI l yX3_judge wsX3_judge { frames := 5, cells := 0, slots := 0, locals := 115 } D cI [.ref (a 0)] (cX a cI no mi ke hk sg lz rn rs rf be fh oh) (cX a cI no u_mi ke hk sg lz rn u_rs rf be fh oh) res := by
  intro sz
  refine mStart (cc := cX3_judge) (maxL := 3) (ret := (some .int)) (own := RX3) (by decide) rfl rfl (Nat.le_of_ble_eq_true rfl) (lv := [(0, .ref (a 0))]) rfl ?_
  intro p e s m args below meth c A ls Q H locs CF hr hlocks hK hP hD hS hA hAe hl hQ
  obtain ⟨hx, hb, hml, hown, hts⟩ := id CF
  have f10 := hts (.fieldLink RX3 10 "MendAnothersBreaking" "now" "LMendAnothersBreaking$State;") (List.mem_of_getElem? (i := 3) rfl)
  have f16 := hts (.fieldLink RX3 16 "MendAnothersBreaking" "mind" "LMendAnothersBreaking$State;") (List.mem_of_getElem? (i := 2) rfl)
  have f33 := hts (.fieldLink RX3 33 "MendAnothersBreaking" "rowNumbers" "[I") (List.mem_of_getElem? (i := 4) rfl)
  have f37 := hts (.fieldLink RX3 37 "MendAnothersBreaking" "rowSize" "I") (List.mem_of_getElem? (i := 1) rfl)
  have i3 : ∀ w ∈ wsX30, w ∈ wsX3_judge := fun w h => List.mem_cons_of_mem _ (List.mem_append_left _ (List.mem_append_right _ h))
  have L23 : ∀ (n : Nat) (x1 : Int32) (rs : Int32) (x2 : Int32) (mi : SV), fuel (fun _ _ => none) (B_X3_judge_23 x1 no rn rs) n x2 mi = some (res, u_mi, u_rs) → 
      ∀ (H : Heap) (locs : List Loc) (ls : Array Slot), va_P D vwCl (cX a cI no mi ke hk sg lz rn rs rf be fh oh) H → va_D A (cX a cI no mi ke hk sg lz rn rs rf be fh oh) → va_S A s.heap H locs → lv_has ls 3 [(0, .ref (a 0)), (1, .int x1), (2, .int x2)] → W p l e { frames := 5, cells := 0, slots := 0, locals := 115 } s m args below meth c H locs 0 0 Q (F0 m 23 ls []) := by
    intro n
    induction n with
    | zero =>
      intro x1 rs x2 mi h
      exact nomatch (show (none : Option (Int32 × SV × Int32)) = some (res, u_mi, u_rs) from h)
    | succ n ih =>
      intro x1 rs x2 mi h  H locs ls hP hD hS hl
      replace h : B_X3_judge_23 x1 no rn rs (fuel (fun _ _ => none) (B_X3_judge_23 x1 no rn rs) n) x2 mi = some (res, u_mi, u_rs) := h
      unfold B_X3_judge_23 at h
      refine lv_iload_n hx hb dX3_judge_23 rfl (lv_at hl 2 rfl) ?_
      refine lv_iload_n hx hb dX3_judge_24 rfl (lv_at hl 1 rfl) ?_
      refine lv_icmp_ge (tgt := 63) hx hb dX3_judge_25 (by decide) (fun c25 => ?_) (fun c25 => ?_)
      · replace h := fx_ite_t c25 h
        refine lv_bipush (v := (-9)) hx hb dX3_judge_63 (by decide) ?_
        obtain ⟨rfl, rfl, rfl⟩ := rtv3 h
        exact rI hQ hx hb hr hlocks hAe hP hS rfl rfl dX3_judge_65
      · replace h := fx_ite_f c25 h
        refine lv_aload_n hx hb dX3_judge_28 rfl (lv_at hl 0 rfl) ?_
        refine va_get (D := D) (ci := 3) (v := .ref (a 9)) (C := RX3) (T := TX3) (N := 11) hx hb hts i3 hown hK hP 0 rfl rfl 1 (by decide) f16 (fun _ h9 => h9) rfl dX3_judge_29 ?_
        obtain ⟨r32, q32, h⟩ := bnd1_inv h
        refine kVI (n := 0) (As := []) (rest := []) CF hl hK hP hD hS hA (c_X2_wholeCount l D cI (a 9) (a 10) (a 11) (a 12) (a 13) (a 14) (a 15) (a 16) mi  r32 q32) gX3_judge_X2_wholeCount rfl dX3_judge_32 (by decide +kernel) ⟨⟨rfl, rfl⟩, ⟨Nat.le_of_ble_eq_true rfl, Nat.le_of_ble_eq_true rfl⟩, Nat.zero_le _, Nat.zero_le _⟩ (JN.ro [9, 10, 11, 12, 13, 14, 15, 16] rfl rfl) 9 rfl ⟨rfl, rfl⟩ rfl rfl (Nat.le_of_ble_eq_true rfl) (fun H locs hP hD hS => ?_)
        refine lv_aload_n hx hb dX3_judge_35 rfl (lv_at hl 0 rfl) ?_
        refine va_get (D := D) (ci := 3) (v := .ref (a 27)) (C := RX3) (T := TX3) (N := 11) hx hb hts i3 hown hK hP 0 rfl rfl 5 (by decide) f33 (fun _ h9 => h9) rfl dX3_judge_36 ?_
        refine lv_iload_n hx hb dX3_judge_39 rfl (lv_at hl 2 rfl) ?_
        obtain ⟨g40, h⟩ := chk_inv h
        refine va_iald (n := 16) (f := rn) hx hb hK hP 27 0 rfl rfl g40 dX3_judge_40 ?_
        refine lv_icmp_eq (tgt := 46) hx hb dX3_judge_41 (by decide) (fun c41 => ?_) (fun c41 => ?_)
        · replace h := fx_ite_t c41 h
          refine lv_aload_n hx hb dX3_judge_46 rfl (lv_at hl 0 rfl) ?_
          refine va_get (D := D) (ci := 3) (v := .ref (a 9)) (C := RX3) (T := TX3) (N := 11) hx hb hts i3 hown hK hP 0 rfl rfl 1 (by decide) f16 (fun _ h9 => h9) rfl dX3_judge_47 ?_
          refine lv_iconst (v := 1) hx hb dX3_judge_50 (by decide) ?_
          refine lv_iconst (v := 1) hx hb dX3_judge_51 (by decide) ?_
          refine lv_bipush (v := (-9)) hx hb dX3_judge_52 (by decide) ?_
          obtain ⟨u54_mi, q54, h⟩ := bnd1_inv h
          refine kVV (n := 3) (As := [.int (1 : Int32), .int (1 : Int32), .int (-9 : Int32)]) (rest := []) CF hl hK hP hD hS hA (c_X2_pass l D cI (a 9) (a 10) (a 11) (a 12) (a 13) (a 14) (a 15) (a 16) mi (1 : Int32) (1 : Int32) (-9 : Int32) u54_mi q54) gX3_judge_X2_pass rfl dX3_judge_54 (by decide +kernel) ⟨⟨rfl, rfl⟩, ⟨Nat.le_of_ble_eq_true rfl, Nat.le_of_ble_eq_true rfl⟩, Nat.zero_le _, Nat.zero_le _⟩ (JN.sub (wst' := (cX a cI no u54_mi ke hk sg lz rn rs rf be fh oh)) [9, 10, 11, 12, 13, 14, 15, 16] rfl rfl rfl rfl) 9 rfl ⟨rfl, rfl⟩ rfl rfl (Nat.le_of_ble_eq_true rfl) (fun H locs hP hD hS => ?_)
          replace hP : va_P D vwCl (cX a cI no u54_mi ke hk sg lz rn rs rf be fh oh) H := hP
          replace hD : va_D A (cX a cI no u54_mi ke hk sg lz rn rs rf be fh oh) := hD
          refine lv_iinc (v := (x2 + 1)) (lv' := [(2, .int (x2 + 1)), (0, .ref (a 0)), (1, .int x1)]) hx hb dX3_judge_57 hl (k := 2) rfl (by first | rfl | decide) (by decide) rfl (fun ls hl => ?_)
          refine lv_goto (tgt := 23) hx hb dX3_judge_60 (by decide) ?_
          exact ih _ _ _ _ h  _ _ _ hP hD hS (lv_sub hl [1, 2, 0] rfl)
        · replace h := fx_ite_f c41 h
          refine lv_iload_n hx hb dX3_judge_44 rfl (lv_at hl 2 rfl) ?_
          obtain ⟨rfl, rfl, rfl⟩ := rtv3 h
          exact rI hQ hx hb hr hlocks hAe hP hS rfl rfl dX3_judge_45
  unfold M_X3_judge at h
  refine lv_aload_n hx hb dX3_judge_0 rfl (lv_at hl 0 rfl) ?_
  refine va_get (D := D) (ci := 3) (v := .int rs) (C := RX3) (T := TX3) (N := 11) hx hb hts i3 hown hK hP 0 rfl rfl 6 (by decide) f37 (fun _ h9 => h9) rfl dX3_judge_1 ?_
  refine lv_istore_n (lv' := [(1, .int rs), (0, .ref (a 0))]) hx hb dX3_judge_4 rfl hl (by decide) rfl (fun ls hl => ?_)
  refine lv_aload_n hx hb dX3_judge_5 rfl (lv_at hl 1 rfl) ?_
  refine lv_iconst (v := 0) hx hb dX3_judge_6 (by decide) ?_
  refine va_put (D := D) (ci := 3) (v := .int (0 : Int32)) (ty := .int) (C := RX3) (T := TX3) (N := 11) hx hb hts i3 tyX3 tyX3_ok nmX3 hown hK hP hD hS 0 rfl rfl 6 (by decide) f37 (fun _ h9 => h9) rfl (by decide +kernel) rfl rfl (Nat.le_of_ble_eq_true rfl) dX3_judge_7 (fun H locs hP hD hS => ?_)
  replace hP : va_P D vwCl (cX a cI no mi ke hk sg lz rn (0 : Int32) rf be fh oh) H := hP
  replace hD : va_D A (cX a cI no mi ke hk sg lz rn (0 : Int32) rf be fh oh) := hD
  refine lv_aload_n hx hb dX3_judge_10 rfl (lv_at hl 1 rfl) ?_
  refine va_get (D := D) (ci := 3) (v := .ref (a 9)) (C := RX3) (T := TX3) (N := 11) hx hb hts i3 hown hK hP 0 rfl rfl 1 (by decide) f16 (fun _ h9 => h9) rfl dX3_judge_11 ?_
  refine lv_aload_n hx hb dX3_judge_14 rfl (lv_at hl 1 rfl) ?_
  refine va_get (D := D) (ci := 3) (v := .ref (a 1)) (C := RX3) (T := TX3) (N := 11) hx hb hts i3 hown hK hP 0 rfl rfl 0 (by decide) f10 (fun _ h9 => h9) rfl dX3_judge_15 ?_
  obtain ⟨u18_mi, q18, h⟩ := bnd1_inv h
  refine kVV (n := 1) (As := [.ref (a 1)]) (rest := []) CF hl hK hP hD hS hA (c_X2_become l D cI (a 9) (a 10) (a 11) (a 12) (a 13) (a 14) (a 15) (a 16) (a 1) (a 2) (a 3) (a 4) (a 5) (a 6) (a 7) (a 8) mi no  u18_mi q18) gX3_judge_X2_become rfl dX3_judge_18 (by decide +kernel) ⟨⟨rfl, rfl⟩, ⟨Nat.le_of_ble_eq_true rfl, Nat.le_of_ble_eq_true rfl⟩, Nat.zero_le _, Nat.zero_le _⟩ (JN.sub (wst' := (cX a cI no u18_mi ke hk sg lz rn (0 : Int32) rf be fh oh)) [9, 10, 11, 12, 13, 14, 15, 16, 1, 2, 3, 4, 5, 6, 7, 8] rfl rfl rfl rfl) 9 rfl ⟨rfl, rfl⟩ rfl rfl (Nat.le_of_ble_eq_true rfl) (fun H locs hP hD hS => ?_)
  replace hP : va_P D vwCl (cX a cI no u18_mi ke hk sg lz rn (0 : Int32) rf be fh oh) H := hP
  replace hD : va_D A (cX a cI no u18_mi ke hk sg lz rn (0 : Int32) rf be fh oh) := hD
  refine lv_iconst (v := 0) hx hb dX3_judge_21 (by decide) ?_
  refine lv_istore_n (lv' := [(2, .int (0 : Int32)), (1, .int rs), (0, .ref (a 0))]) hx hb dX3_judge_22 rfl hl (by decide) rfl (fun ls hl => ?_)
  exact L23 FU _ _ _ _ h  _ _ _ hP hD hS (lv_sub hl [2, 1, 0] rfl)
/-! X3_clear -/
set_option maxHeartbeats 4000000 in
set_option maxRecDepth 100000 in
theorem c_X3_clear (l : Launch) (D : va_G) (cI : ClassId) (a : Nat → Nat) (no : SV) (mi : SV) (ke : SV) (hk : Int32) (sg : (Nat → Int32)) (lz : Int32) (rn : (Nat → Int32)) (rs : Int32) (rf : (Nat → Int32)) (be : (Nat → Int32)) (fh : (Nat → Int32)) (oh : (Nat → Int32))  (res : Int32) (u_rs : Int32) (h : M_X3_clear rs = some (res, u_rs)) : mI l yX3_clear wsX3_clear { frames := 0, cells := 0, slots := 0, locals := 0 } D cI [.ref (a 0)] (cX a cI no mi ke hk sg lz rn rs rf be fh oh) (cX a cI no mi ke hk sg lz rn u_rs rf be fh oh) res := by
  intro sz
  refine mStart (cc := cX3_clear) (maxL := 2) (ret := (some .int)) (own := RX3) (by decide) rfl rfl (Nat.le_of_ble_eq_true rfl) (lv := [(0, .ref (a 0))]) rfl ?_
  intro p e s m args below meth c A ls Q H locs CF hr hlocks hK hP hD hS hA hAe hl hQ
  obtain ⟨hx, hb, hml, hown, hts⟩ := id CF
  have f37 := hts (.fieldLink RX3 37 "MendAnothersBreaking" "rowSize" "I") (List.mem_of_getElem? (i := 1) rfl)
  have i3 : ∀ w ∈ wsX30, w ∈ wsX3_clear := fun w h => List.mem_cons_of_mem _ (List.mem_append_right _ h)
  unfold M_X3_clear at h
  refine lv_aload_n hx hb dX3_clear_0 rfl (lv_at hl 0 rfl) ?_
  refine va_get (D := D) (ci := 3) (v := .int rs) (C := RX3) (T := TX3) (N := 11) hx hb hts i3 hown hK hP 0 rfl rfl 6 (by decide) f37 (fun _ h9 => h9) rfl dX3_clear_1 ?_
  refine lv_istore_n (lv' := [(1, .int rs), (0, .ref (a 0))]) hx hb dX3_clear_4 rfl hl (by decide) rfl (fun ls hl => ?_)
  refine lv_aload_n hx hb dX3_clear_5 rfl (lv_at hl 1 rfl) ?_
  refine lv_iconst (v := 0) hx hb dX3_clear_6 (by decide) ?_
  refine va_put (D := D) (ci := 3) (v := .int (0 : Int32)) (ty := .int) (C := RX3) (T := TX3) (N := 11) hx hb hts i3 tyX3 tyX3_ok nmX3 hown hK hP hD hS 0 rfl rfl 6 (by decide) f37 (fun _ h9 => h9) rfl (by decide +kernel) rfl rfl (Nat.le_of_ble_eq_true rfl) dX3_clear_7 (fun H locs hP hD hS => ?_)
  replace hP : va_P D vwCl (cX a cI no mi ke hk sg lz rn (0 : Int32) rf be fh oh) H := hP
  replace hD : va_D A (cX a cI no mi ke hk sg lz rn (0 : Int32) rf be fh oh) := hD
  refine lv_iload_n hx hb dX3_clear_10 rfl (lv_at hl 0 rfl) ?_
  obtain ⟨rfl, rfl⟩ := rtv2 h
  exact rI hQ hx hb hr hlocks hAe hP hS rfl rfl dX3_clear_11
/-! X3_breakByLot -/
set_option maxHeartbeats 4000000 in
set_option maxRecDepth 100000 in
theorem c_X3_breakByLot (l : Launch) (D : va_G) (cI : ClassId) (a : Nat → Nat) (no : SV) (mi : SV) (ke : SV) (hk : Int32) (sg : (Nat → Int32)) (lz : Int32) (rn : (Nat → Int32)) (rs : Int32) (rf : (Nat → Int32)) (be : (Nat → Int32)) (fh : (Nat → Int32)) (oh : (Nat → Int32)) (p1 : Int32) (res : Int32) (u_mi : SV) (h : M_X3_breakByLot no mi p1 = some (res, u_mi)) : mI l yX3_breakByLot wsX3_breakByLot { frames := 2, cells := 0, slots := 0, locals := 61 } D cI [.ref (a 0), .int p1] (cX a cI no mi ke hk sg lz rn rs rf be fh oh) (cX a cI no u_mi ke hk sg lz rn rs rf be fh oh) res := by
  intro sz
  refine mStart (cc := cX3_breakByLot) (maxL := 5) (ret := (some .int)) (own := RX3) (by decide) rfl rfl (Nat.le_of_ble_eq_true rfl) (lv := [(0, .ref (a 0)), (1, .int p1)]) rfl ?_
  intro p e s m args below meth c A ls Q H locs CF hr hlocks hK hP hD hS hA hAe hl hQ
  obtain ⟨hx, hb, hml, hown, hts⟩ := id CF
  have f10 := hts (.fieldLink RX3 10 "MendAnothersBreaking" "now" "LMendAnothersBreaking$State;") (List.mem_of_getElem? (i := 2) rfl)
  have f16 := hts (.fieldLink RX3 16 "MendAnothersBreaking" "mind" "LMendAnothersBreaking$State;") (List.mem_of_getElem? (i := 1) rfl)
  have f114 := hts (.fieldLink RX3 114 "MendAnothersBreaking$State" "breakers" "[I") (List.mem_of_getElem? (i := 8) rfl)
  have f171 := hts (.fieldLink RX3 171 "MendAnothersBreaking$State" "things" "I") (List.mem_of_getElem? (i := 3) rfl)
  have f190 := hts (.fieldLink RX3 190 "MendAnothersBreaking$State" "people" "I") (List.mem_of_getElem? (i := 7) rfl)
  have k269 := hts (.constant RX3 269 (1664525)) (List.mem_of_getElem? (i := 4) rfl)
  have k270 := hts (.constant RX3 270 (1013904223)) (List.mem_of_getElem? (i := 5) rfl)
  have k271 := hts (.constant RX3 271 (2147483647)) (List.mem_of_getElem? (i := 6) rfl)
  have i2 : ∀ w ∈ wsX20, w ∈ wsX3_breakByLot := fun w h => List.mem_cons_of_mem _ (List.mem_append_right _ h)
  have i3 : ∀ w ∈ wsX30, w ∈ wsX3_breakByLot := fun w h => List.mem_cons_of_mem _ (List.mem_append_left _ (List.mem_append_right _ h))
  have L15 : ∀ (n : Nat)  (x2 : Int32) (x3 : Int32) (mi : SV), fuel (fun _ _ _ => none) (B_X3_breakByLot_15 no) n x2 x3 mi = some (res, u_mi) → 
      ∀ (H : Heap) (locs : List Loc) (ls : Array Slot), va_P D vwCl (cX a cI no mi ke hk sg lz rn rs rf be fh oh) H → va_D A (cX a cI no mi ke hk sg lz rn rs rf be fh oh) → va_S A s.heap H locs → lv_has ls 5 [(0, .ref (a 0)), (2, .int x2), (3, .int x3)] → W p l e { frames := 2, cells := 0, slots := 0, locals := 61 } s m args below meth c H locs 0 0 Q (F0 m 15 ls []) := by
    intro n
    induction n with
    | zero =>
      intro x2 x3 mi h
      exact nomatch (show (none : Option (Int32 × SV)) = some (res, u_mi) from h)
    | succ n ih =>
      intro x2 x3 mi h  H locs ls hP hD hS hl
      replace h : B_X3_breakByLot_15 no (fuel (fun _ _ _ => none) (B_X3_breakByLot_15 no) n) x2 x3 mi = some (res, u_mi) := h
      unfold B_X3_breakByLot_15 at h
      refine lv_iload_n hx hb dX3_breakByLot_15 rfl (lv_at hl 2 rfl) ?_
      refine lv_aload_n hx hb dX3_breakByLot_16 rfl (lv_at hl 0 rfl) ?_
      refine va_get (D := D) (ci := 3) (v := .ref (a 9)) (C := RX3) (T := TX3) (N := 11) hx hb hts i3 hown hK hP 0 rfl rfl 1 (by decide) f16 (fun _ h9 => h9) rfl dX3_breakByLot_17 ?_
      refine va_get (D := D) (ci := 2) (v := .int (sTh mi)) (C := RX2) (T := TX2) (N := 10) hx hb hts i2 hown hK hP 9 rfl rfl 8 (by decide) f171 (fun _ h9 => h9) rfl dX3_breakByLot_20 ?_
      refine lv_icmp_ge (tgt := 97) hx hb dX3_breakByLot_23 (by decide) (fun c23 => ?_) (fun c23 => ?_)
      · replace h := fx_ite_t c23 h
        refine lv_iload_n hx hb dX3_breakByLot_97 rfl (lv_at hl 1 rfl) ?_
        obtain ⟨rfl, rfl⟩ := rtv2 h
        exact rI hQ hx hb hr hlocks hAe hP hS rfl rfl dX3_breakByLot_98
      · replace h := fx_ite_f c23 h
        refine lv_aload_n hx hb dX3_breakByLot_26 rfl (lv_at hl 0 rfl) ?_
        refine va_get (D := D) (ci := 3) (v := .ref (a 9)) (C := RX3) (T := TX3) (N := 11) hx hb hts i3 hown hK hP 0 rfl rfl 1 (by decide) f16 (fun _ h9 => h9) rfl dX3_breakByLot_27 ?_
        refine lv_iload_n hx hb dX3_breakByLot_30 rfl (lv_at hl 2 rfl) ?_
        obtain ⟨r31, q31, h⟩ := bnd1_inv h
        refine kVI (n := 1) (As := [.int x3]) (rest := []) CF hl hK hP hD hS hA (c_X2_isWhole l D cI (a 9) (a 10) (a 11) (a 12) (a 13) (a 14) (a 15) (a 16) mi x3 r31 q31) gX3_breakByLot_X2_isWhole rfl dX3_breakByLot_31 (by decide +kernel) ⟨⟨rfl, rfl⟩, ⟨Nat.le_of_ble_eq_true rfl, Nat.le_of_ble_eq_true rfl⟩, Nat.zero_le _, Nat.zero_le _⟩ (JN.ro [9, 10, 11, 12, 13, 14, 15, 16] rfl rfl) 9 rfl ⟨rfl, rfl⟩ rfl rfl (Nat.le_of_ble_eq_true rfl) (fun H locs hP hD hS => ?_)
        refine lv_if_eq (tgt := 91) hx hb dX3_breakByLot_34 (by decide) (fun c34 => ?_) (fun c34 => ?_)
        · replace h := fx_ite_t c34 h
          refine lv_iinc (v := (x3 + 1)) (lv' := [(3, .int (x3 + 1)), (0, .ref (a 0)), (2, .int x2)]) hx hb dX3_breakByLot_91 hl (k := 2) rfl (by first | rfl | decide) (by decide) rfl (fun ls hl => ?_)
          refine lv_goto (tgt := 15) hx hb dX3_breakByLot_94 (by decide) ?_
          exact ih _ _ _ h  _ _ _ hP hD hS (lv_sub hl [1, 2, 0] rfl)
        · replace h := fx_ite_f c34 h
          refine lv_iload_n hx hb dX3_breakByLot_37 rfl (lv_at hl 1 rfl) ?_
          refine lv_ldcw (v := 1664525) hx hb hown k269 dX3_breakByLot_38 ?_
          refine lv_imul hx hb dX3_breakByLot_41 ?_
          refine lv_ldcw (v := 1013904223) hx hb hown k270 dX3_breakByLot_42 ?_
          refine lv_iadd hx hb dX3_breakByLot_45 ?_
          refine lv_istore_n (lv' := [(2, .int ((x2 * (1664525 : Int32)) + (1013904223 : Int32))), (0, .ref (a 0)), (3, .int x3)]) hx hb dX3_breakByLot_46 rfl hl (by decide) rfl (fun ls hl => ?_)
          refine lv_iload_n hx hb dX3_breakByLot_47 rfl (lv_at hl 0 rfl) ?_
          refine lv_ldcw (v := 2147483647) hx hb hown k271 dX3_breakByLot_48 ?_
          refine lv_iand hx hb dX3_breakByLot_51 ?_
          refine lv_sipush (v := 256) hx hb dX3_breakByLot_52 (by decide) ?_
          refine lv_idiv hx hb dX3_breakByLot_55 (by decide) ?_
          refine lv_aload_n hx hb dX3_breakByLot_56 rfl (lv_at hl 1 rfl) ?_
          refine va_get (D := D) (ci := 3) (v := .ref (a 9)) (C := RX3) (T := TX3) (N := 11) hx hb hts i3 hown hK hP 0 rfl rfl 1 (by decide) f16 (fun _ h9 => h9) rfl dX3_breakByLot_57 ?_
          refine va_get (D := D) (ci := 2) (v := .int (sPe mi)) (C := RX2) (T := TX2) (N := 10) hx hb hts i2 hown hK hP 9 rfl rfl 7 (by decide) f190 (fun _ h9 => h9) rfl dX3_breakByLot_60 ?_
          refine lv_iconst (v := 1) hx hb dX3_breakByLot_63 (by decide) ?_
          refine lv_iadd hx hb dX3_breakByLot_64 ?_
          obtain ⟨e65, h⟩ := dchI_inv h
          refine lv_irem hx hb dX3_breakByLot_65 e65 ?_
          refine lv_istore (lv' := [(4, .int (((((x2 * (1664525 : Int32)) + (1013904223 : Int32)) &&& (2147483647 : Int32)) / (256 : Int32)) - ((((x2 * (1664525 : Int32)) + (1013904223 : Int32)) &&& (2147483647 : Int32)) / (256 : Int32)) / ((sPe mi) + (1 : Int32)) * ((sPe mi) + (1 : Int32)))), (2, .int ((x2 * (1664525 : Int32)) + (1013904223 : Int32))), (0, .ref (a 0)), (3, .int x3)]) hx hb dX3_breakByLot_66 hl (by decide) rfl (fun ls hl => ?_)
          refine lv_iload hx hb dX3_breakByLot_68 (lv_at hl 0 rfl) ?_
          refine lv_aload_n hx hb dX3_breakByLot_70 rfl (lv_at hl 2 rfl) ?_
          refine va_get (D := D) (ci := 3) (v := .ref (a 9)) (C := RX3) (T := TX3) (N := 11) hx hb hts i3 hown hK hP 0 rfl rfl 1 (by decide) f16 (fun _ h9 => h9) rfl dX3_breakByLot_71 ?_
          refine va_get (D := D) (ci := 2) (v := .int (sPe mi)) (C := RX2) (T := TX2) (N := 10) hx hb hts i2 hown hK hP 9 rfl rfl 7 (by decide) f190 (fun _ h9 => h9) rfl dX3_breakByLot_74 ?_
          refine lv_icmp_ge (tgt := 91) hx hb dX3_breakByLot_77 (by decide) (fun c77 => ?_) (fun c77 => ?_)
          · replace h := fx_ite_t c77 h
            refine lv_iinc (v := (x3 + 1)) (lv' := [(3, .int (x3 + 1)), (4, .int (((((x2 * (1664525 : Int32)) + (1013904223 : Int32)) &&& (2147483647 : Int32)) / (256 : Int32)) - ((((x2 * (1664525 : Int32)) + (1013904223 : Int32)) &&& (2147483647 : Int32)) / (256 : Int32)) / ((sPe mi) + (1 : Int32)) * ((sPe mi) + (1 : Int32)))), (2, .int ((x2 * (1664525 : Int32)) + (1013904223 : Int32))), (0, .ref (a 0))]) hx hb dX3_breakByLot_91 hl (k := 3) rfl (by first | rfl | decide) (by decide) rfl (fun ls hl => ?_)
            refine lv_goto (tgt := 15) hx hb dX3_breakByLot_94 (by decide) ?_
            exact ih _ _ _ h  _ _ _ hP hD hS (lv_sub hl [3, 2, 0] rfl)
          · replace h := fx_ite_f c77 h
            refine lv_aload_n hx hb dX3_breakByLot_80 rfl (lv_at hl 2 rfl) ?_
            refine va_get (D := D) (ci := 3) (v := .ref (a 9)) (C := RX3) (T := TX3) (N := 11) hx hb hts i3 hown hK hP 0 rfl rfl 1 (by decide) f16 (fun _ h9 => h9) rfl dX3_breakByLot_81 ?_
            refine va_get (D := D) (ci := 2) (v := .ref (a 16)) (C := RX2) (T := TX2) (N := 10) hx hb hts i2 hown hK hP 9 rfl rfl 6 (by decide) f114 (fun _ h9 => h9) rfl dX3_breakByLot_84 ?_
            refine lv_iload_n hx hb dX3_breakByLot_87 rfl (lv_at hl 3 rfl) ?_
            refine lv_iload hx hb dX3_breakByLot_88 (lv_at hl 0 rfl) ?_
            obtain ⟨g90, h⟩ := chk_inv h
            refine va_iast (n := 9) (f := (sBr mi)) hx hb hK hP hD hS 16 0 rfl rfl g90 dX3_breakByLot_90 (fun H locs hP hD hS => ?_)
            replace hP : va_P D vwCl (cX a cI no (sUBr mi (upd (sBr mi) (Int32.toNatClampNeg x3) (((((x2 * (1664525 : Int32)) + (1013904223 : Int32)) &&& (2147483647 : Int32)) / (256 : Int32)) - ((((x2 * (1664525 : Int32)) + (1013904223 : Int32)) &&& (2147483647 : Int32)) / (256 : Int32)) / ((sPe mi) + (1 : Int32)) * ((sPe mi) + (1 : Int32))))) ke hk sg lz rn rs rf be fh oh) H := hP
            replace hD : va_D A (cX a cI no (sUBr mi (upd (sBr mi) (Int32.toNatClampNeg x3) (((((x2 * (1664525 : Int32)) + (1013904223 : Int32)) &&& (2147483647 : Int32)) / (256 : Int32)) - ((((x2 * (1664525 : Int32)) + (1013904223 : Int32)) &&& (2147483647 : Int32)) / (256 : Int32)) / ((sPe mi) + (1 : Int32)) * ((sPe mi) + (1 : Int32))))) ke hk sg lz rn rs rf be fh oh) := hD
            refine lv_iinc (v := (x3 + 1)) (lv' := [(3, .int (x3 + 1)), (4, .int (((((x2 * (1664525 : Int32)) + (1013904223 : Int32)) &&& (2147483647 : Int32)) / (256 : Int32)) - ((((x2 * (1664525 : Int32)) + (1013904223 : Int32)) &&& (2147483647 : Int32)) / (256 : Int32)) / ((sPe mi) + (1 : Int32)) * ((sPe mi) + (1 : Int32)))), (2, .int ((x2 * (1664525 : Int32)) + (1013904223 : Int32))), (0, .ref (a 0))]) hx hb dX3_breakByLot_91 hl (k := 3) rfl (by first | rfl | decide) (by decide) rfl (fun ls hl => ?_)
            refine lv_goto (tgt := 15) hx hb dX3_breakByLot_94 (by decide) ?_
            exact ih _ _ _ h  _ _ _ hP hD hS (lv_sub hl [3, 2, 0] rfl)
  unfold M_X3_breakByLot at h
  refine lv_aload_n hx hb dX3_breakByLot_0 rfl (lv_at hl 0 rfl) ?_
  refine va_get (D := D) (ci := 3) (v := .ref (a 9)) (C := RX3) (T := TX3) (N := 11) hx hb hts i3 hown hK hP 0 rfl rfl 1 (by decide) f16 (fun _ h9 => h9) rfl dX3_breakByLot_1 ?_
  refine lv_aload_n hx hb dX3_breakByLot_4 rfl (lv_at hl 0 rfl) ?_
  refine va_get (D := D) (ci := 3) (v := .ref (a 1)) (C := RX3) (T := TX3) (N := 11) hx hb hts i3 hown hK hP 0 rfl rfl 0 (by decide) f10 (fun _ h9 => h9) rfl dX3_breakByLot_5 ?_
  obtain ⟨u8_mi, q8, h⟩ := bnd1_inv h
  refine kVV (n := 1) (As := [.ref (a 1)]) (rest := []) CF hl hK hP hD hS hA (c_X2_become l D cI (a 9) (a 10) (a 11) (a 12) (a 13) (a 14) (a 15) (a 16) (a 1) (a 2) (a 3) (a 4) (a 5) (a 6) (a 7) (a 8) mi no  u8_mi q8) gX3_breakByLot_X2_become rfl dX3_breakByLot_8 (by decide +kernel) ⟨⟨rfl, rfl⟩, ⟨Nat.le_of_ble_eq_true rfl, Nat.le_of_ble_eq_true rfl⟩, Nat.zero_le _, Nat.zero_le _⟩ (JN.sub (wst' := (cX a cI no u8_mi ke hk sg lz rn rs rf be fh oh)) [9, 10, 11, 12, 13, 14, 15, 16, 1, 2, 3, 4, 5, 6, 7, 8] rfl rfl rfl rfl) 9 rfl ⟨rfl, rfl⟩ rfl rfl (Nat.le_of_ble_eq_true rfl) (fun H locs hP hD hS => ?_)
  replace hP : va_P D vwCl (cX a cI no u8_mi ke hk sg lz rn rs rf be fh oh) H := hP
  replace hD : va_D A (cX a cI no u8_mi ke hk sg lz rn rs rf be fh oh) := hD
  refine lv_iload_n hx hb dX3_breakByLot_11 rfl (lv_at hl 1 rfl) ?_
  refine lv_istore_n (lv' := [(2, .int p1), (0, .ref (a 0)), (1, .int p1)]) hx hb dX3_breakByLot_12 rfl hl (by decide) rfl (fun ls hl => ?_)
  refine lv_iconst (v := 0) hx hb dX3_breakByLot_13 (by decide) ?_
  refine lv_istore_n (lv' := [(3, .int (0 : Int32)), (2, .int p1), (0, .ref (a 0)), (1, .int p1)]) hx hb dX3_breakByLot_14 rfl hl (by decide) rfl (fun ls hl => ?_)
  exact L15 FU _ _ _ h  _ _ _ hP hD hS (lv_sub hl [2, 1, 0] rfl)
/-! X3_lots -/
set_option maxHeartbeats 4000000 in
set_option maxRecDepth 100000 in
theorem c_X3_lots (l : Launch) (D : va_G) (cI : ClassId) (a : Nat → Nat) (no : SV) (mi : SV) (ke : SV) (hk : Int32) (sg : (Nat → Int32)) (lz : Int32) (rn : (Nat → Int32)) (rs : Int32) (rf : (Nat → Int32)) (be : (Nat → Int32)) (fh : (Nat → Int32)) (oh : (Nat → Int32)) (p1 : Int32) (p2 : Int32) (p3 : Int32) (res : Int32) (u_mi : SV) (u_rf : (Nat → Int32)) (h : M_X3_lots no mi rf p1 p2 p3 = some (res, u_mi, u_rf)) : mI l yX3_lots wsX3_lots { frames := 5, cells := 0, slots := 0, locals := 115 } D cI [.ref (a 0), .int p1, .int p2, .int p3] (cX a cI no mi ke hk sg lz rn rs rf be fh oh) (cX a cI no u_mi ke hk sg lz rn rs u_rf be fh oh) res := by
  intro sz
  refine mStart (cc := cX3_lots) (maxL := 9) (ret := (some .int)) (own := RX3) (by decide) rfl rfl (Nat.le_of_ble_eq_true rfl) (lv := [(0, .ref (a 0)), (1, .int p1), (2, .int p2), (3, .int p3)]) rfl ?_
  intro p e s m args below meth c A ls Q H locs CF hr hlocks hK hP hD hS hA hAe hl hQ
  obtain ⟨hx, hb, hml, hown, hts⟩ := id CF
  have f10 := hts (.fieldLink RX3 10 "MendAnothersBreaking" "now" "LMendAnothersBreaking$State;") (List.mem_of_getElem? (i := 1) rfl)
  have f16 := hts (.fieldLink RX3 16 "MendAnothersBreaking" "mind" "LMendAnothersBreaking$State;") (List.mem_of_getElem? (i := 3) rfl)
  have f190 := hts (.fieldLink RX3 190 "MendAnothersBreaking$State" "people" "I") (List.mem_of_getElem? (i := 2) rfl)
  have i2 : ∀ w ∈ wsX20, w ∈ wsX3_lots := fun w h => List.mem_cons_of_mem _ (List.mem_append_right _ h)
  have i3 : ∀ w ∈ wsX30, w ∈ wsX3_lots := fun w h => List.mem_cons_of_mem _ (List.mem_append_left _ (List.mem_append_right _ h))
  have L66 : ∀ (n : Nat) (x1 : Int32) (x3 : Int32) (rf : (Nat → Int32)) (x5 : Int32) (x6 : Int32) (x7 : Int32) (x8 : Int32) (mi : SV), fuel (fun _ _ _ _ _ => none) (B_X3_lots_66 x1 x3 no rf) n x5 x6 x7 x8 mi = some (res, u_mi, u_rf) → 
      ∀ (H : Heap) (locs : List Loc) (ls : Array Slot), va_P D vwCl (cX a cI no mi ke hk sg lz rn rs rf be fh oh) H → va_D A (cX a cI no mi ke hk sg lz rn rs rf be fh oh) → va_S A s.heap H locs → lv_has ls 9 [(0, .ref (a 0)), (1, .int x1), (3, .int x3), (5, .int x5), (6, .int x6), (7, .int x7), (8, .int x8)] → W p l e { frames := 5, cells := 0, slots := 0, locals := 115 } s m args below meth c H locs 0 0 Q (F0 m 66 ls []) := by
    intro n
    induction n with
    | zero =>
      intro x1 x3 rf x5 x6 x7 x8 mi h
      exact nomatch (show (none : Option (Int32 × SV × (Nat → Int32))) = some (res, u_mi, u_rf) from h)
    | succ n ih =>
      intro x1 x3 rf x5 x6 x7 x8 mi h  H locs ls hP hD hS hl
      replace h : B_X3_lots_66 x1 x3 no rf (fuel (fun _ _ _ _ _ => none) (B_X3_lots_66 x1 x3 no rf) n) x5 x6 x7 x8 mi = some (res, u_mi, u_rf) := h
      unfold B_X3_lots_66 at h
      refine lv_iload hx hb dX3_lots_66 (lv_at hl 6 rfl) ?_
      refine lv_iload_n hx hb dX3_lots_68 rfl (lv_at hl 1 rfl) ?_
      refine lv_icmp_ge (tgt := 130) hx hb dX3_lots_69 (by decide) (fun c69 => ?_) (fun c69 => ?_)
      · replace h := fx_ite_t c69 h
        refine lv_iload_n hx hb dX3_lots_130 rfl (lv_at hl 2 rfl) ?_
        refine lv_if_ne (tgt := 139) hx hb dX3_lots_131 (by decide) (fun c131 => ?_) (fun c131 => ?_)
        · replace h := fx_ite_f c131 h
          refine lv_iload hx hb dX3_lots_139 (lv_at hl 5 rfl) ?_
          obtain ⟨rfl, rfl, rfl⟩ := rtv3 h
          exact rI hQ hx hb hr hlocks hAe hP hS rfl rfl dX3_lots_141
        · replace h := fx_ite_t c131 h
          refine lv_iload hx hb dX3_lots_134 (lv_at hl 4 rfl) ?_
          refine lv_goto (tgt := 141) hx hb dX3_lots_136 (by decide) ?_
          obtain ⟨rfl, rfl, rfl⟩ := rtv3 h
          exact rI hQ hx hb hr hlocks hAe hP hS rfl rfl dX3_lots_141
      · replace h := fx_ite_f c69 h
        refine lv_aload_n hx hb dX3_lots_72 rfl (lv_at hl 0 rfl) ?_
        refine lv_iload hx hb dX3_lots_73 (lv_at hl 3 rfl) ?_
        obtain ⟨r75, u75_mi, q75, h⟩ := bnd2_inv h
        refine kVI (n := 1) (As := [.int x5]) (rest := []) CF hl hK hP hD hS hA (c_X3_breakByLot l D cI a no mi ke hk sg lz rn rs rf be fh oh x5 r75 u75_mi q75) gX3_lots_X3_breakByLot rfl dX3_lots_75 (by decide +kernel) ⟨⟨rfl, rfl⟩, ⟨Nat.le_of_ble_eq_true rfl, Nat.le_of_ble_eq_true rfl⟩, Nat.zero_le _, Nat.zero_le _⟩ (JN.whole (w1 := (cX a cI no u75_mi ke hk sg lz rn rs rf be fh oh)) rfl) 0 rfl ⟨rfl, rfl⟩ rfl rfl (Nat.le_of_ble_eq_true rfl) (fun H locs hP hD hS => ?_)
        replace hP : va_P D vwCl (cX a cI no u75_mi ke hk sg lz rn rs rf be fh oh) H := hP
        replace hD : va_D A (cX a cI no u75_mi ke hk sg lz rn rs rf be fh oh) := hD
        refine lv_istore (lv' := [(5, .int r75), (0, .ref (a 0)), (1, .int x1), (3, .int x3), (6, .int x6), (7, .int x7), (8, .int x8)]) hx hb dX3_lots_78 hl (by decide) rfl (fun ls hl => ?_)
        refine lv_aload_n hx hb dX3_lots_80 rfl (lv_at hl 1 rfl) ?_
        refine va_get (D := D) (ci := 3) (v := .ref (a 9)) (C := RX3) (T := TX3) (N := 11) hx hb hts i3 hown hK hP 0 rfl rfl 1 (by decide) f16 (fun _ h9 => h9) rfl dX3_lots_81 ?_
        refine lv_bipush (v := 10) hx hb dX3_lots_84 (by decide) ?_
        refine lv_iconst (v := 1) hx hb dX3_lots_86 (by decide) ?_
        refine lv_bipush (v := (-9)) hx hb dX3_lots_87 (by decide) ?_
        obtain ⟨u89_mi, q89, h⟩ := bnd1_inv h
        refine kVV (n := 3) (As := [.int (10 : Int32), .int (1 : Int32), .int (-9 : Int32)]) (rest := []) CF hl hK hP hD hS hA (c_X2_pass l D cI (a 9) (a 10) (a 11) (a 12) (a 13) (a 14) (a 15) (a 16) u75_mi (10 : Int32) (1 : Int32) (-9 : Int32) u89_mi q89) gX3_lots_X2_pass rfl dX3_lots_89 (by decide +kernel) ⟨⟨rfl, rfl⟩, ⟨Nat.le_of_ble_eq_true rfl, Nat.le_of_ble_eq_true rfl⟩, Nat.zero_le _, Nat.zero_le _⟩ (JN.sub (wst' := (cX a cI no u89_mi ke hk sg lz rn rs rf be fh oh)) [9, 10, 11, 12, 13, 14, 15, 16] rfl rfl rfl rfl) 9 rfl ⟨rfl, rfl⟩ rfl rfl (Nat.le_of_ble_eq_true rfl) (fun H locs hP hD hS => ?_)
        replace hP : va_P D vwCl (cX a cI no u89_mi ke hk sg lz rn rs rf be fh oh) H := hP
        replace hD : va_D A (cX a cI no u89_mi ke hk sg lz rn rs rf be fh oh) := hD
        refine lv_iload hx hb dX3_lots_92 (lv_at hl 4 rfl) ?_
        refine lv_aload_n hx hb dX3_lots_94 rfl (lv_at hl 1 rfl) ?_
        refine va_get (D := D) (ci := 3) (v := .ref (a 9)) (C := RX3) (T := TX3) (N := 11) hx hb hts i3 hown hK hP 0 rfl rfl 1 (by decide) f16 (fun _ h9 => h9) rfl dX3_lots_95 ?_
        obtain ⟨r98, q98, h⟩ := bnd1_inv h
        refine kVI (n := 0) (As := []) (rest := [.int x6]) CF hl hK hP hD hS hA (c_X2_wholeCount l D cI (a 9) (a 10) (a 11) (a 12) (a 13) (a 14) (a 15) (a 16) u89_mi  r98 q98) gX3_lots_X2_wholeCount rfl dX3_lots_98 (by decide +kernel) ⟨⟨rfl, rfl⟩, ⟨Nat.le_of_ble_eq_true rfl, Nat.le_of_ble_eq_true rfl⟩, Nat.zero_le _, Nat.zero_le _⟩ (JN.ro [9, 10, 11, 12, 13, 14, 15, 16] rfl rfl) 9 rfl ⟨rfl, rfl⟩ rfl rfl (Nat.le_of_ble_eq_true rfl) (fun H locs hP hD hS => ?_)
        refine lv_iadd hx hb dX3_lots_101 ?_
        refine lv_istore (lv' := [(6, .int (x6 + r98)), (5, .int r75), (0, .ref (a 0)), (1, .int x1), (3, .int x3), (7, .int x7), (8, .int x8)]) hx hb dX3_lots_102 hl (by decide) rfl (fun ls hl => ?_)
        refine lv_iload hx hb dX3_lots_104 (lv_at hl 5 rfl) ?_
        refine lv_aload_n hx hb dX3_lots_106 rfl (lv_at hl 2 rfl) ?_
        refine va_get (D := D) (ci := 3) (v := .ref (a 9)) (C := RX3) (T := TX3) (N := 11) hx hb hts i3 hown hK hP 0 rfl rfl 1 (by decide) f16 (fun _ h9 => h9) rfl dX3_lots_107 ?_
        obtain ⟨r110, q110, h⟩ := bnd1_inv h
        refine kVI (n := 0) (As := []) (rest := [.int x7]) CF hl hK hP hD hS hA (c_X2_mendedByAll l D cI (a 9) (a 10) (a 11) (a 12) (a 13) (a 14) (a 15) (a 16) u89_mi  r110 q110) gX3_lots_X2_mendedByAll rfl dX3_lots_110 (by decide +kernel) ⟨⟨rfl, rfl⟩, ⟨Nat.le_of_ble_eq_true rfl, Nat.le_of_ble_eq_true rfl⟩, Nat.zero_le _, Nat.zero_le _⟩ (JN.ro [9, 10, 11, 12, 13, 14, 15, 16] rfl rfl) 9 rfl ⟨rfl, rfl⟩ rfl rfl (Nat.le_of_ble_eq_true rfl) (fun H locs hP hD hS => ?_)
        refine lv_aload_n hx hb dX3_lots_113 rfl (lv_at hl 2 rfl) ?_
        refine va_get (D := D) (ci := 3) (v := .ref (a 1)) (C := RX3) (T := TX3) (N := 11) hx hb hts i3 hown hK hP 0 rfl rfl 0 (by decide) f10 (fun _ h9 => h9) rfl dX3_lots_114 ?_
        obtain ⟨r117, q117, h⟩ := bnd1_inv h
        refine kVI (n := 0) (As := []) (rest := [.int r110, .int x7]) CF hl hK hP hD hS hA (c_X2_mendedByAll l D cI (a 1) (a 2) (a 3) (a 4) (a 5) (a 6) (a 7) (a 8) no  r117 q117) gX3_lots_X2_mendedByAll rfl dX3_lots_117 (by decide +kernel) ⟨⟨rfl, rfl⟩, ⟨Nat.le_of_ble_eq_true rfl, Nat.le_of_ble_eq_true rfl⟩, Nat.zero_le _, Nat.zero_le _⟩ (JN.ro [1, 2, 3, 4, 5, 6, 7, 8] rfl rfl) 1 rfl ⟨rfl, rfl⟩ rfl rfl (Nat.le_of_ble_eq_true rfl) (fun H locs hP hD hS => ?_)
        refine lv_isub hx hb dX3_lots_120 ?_
        refine lv_iadd hx hb dX3_lots_121 ?_
        refine lv_istore (lv' := [(7, .int (x7 + (r110 - r117))), (6, .int (x6 + r98)), (5, .int r75), (0, .ref (a 0)), (1, .int x1), (3, .int x3), (8, .int x8)]) hx hb dX3_lots_122 hl (by decide) rfl (fun ls hl => ?_)
        refine lv_iinc (v := (x8 + 1)) (lv' := [(8, .int (x8 + 1)), (7, .int (x7 + (r110 - r117))), (6, .int (x6 + r98)), (5, .int r75), (0, .ref (a 0)), (1, .int x1), (3, .int x3)]) hx hb dX3_lots_124 hl (k := 6) rfl (by first | rfl | decide) (by decide) rfl (fun ls hl => ?_)
        refine lv_goto (tgt := 66) hx hb dX3_lots_127 (by decide) ?_
        exact ih _ _ _ _ _ _ _ _ h  _ _ _ hP hD hS (lv_sub hl [4, 5, 6, 3, 2, 1, 0] rfl)
  unfold M_X3_lots at h
  refine lv_iload_n hx hb dX3_lots_0 rfl (lv_at hl 1 rfl) ?_
  refine lv_iconst (v := 1) hx hb dX3_lots_1 (by decide) ?_
  refine lv_bipush (v := 20) hx hb dX3_lots_2 (by decide) ?_
  obtain ⟨r4, q4, h⟩ := bnd1_inv h
  refine kSI (n := 3) (As := [.int p1, .int (1 : Int32), .int (20 : Int32)]) (rest := []) CF hl hK hP hD hS hA (c_X3_outside l D cI   p1 (1 : Int32) (20 : Int32) r4 q4) gX3_lots_X3_outside rfl dX3_lots_4 (by decide +kernel) ⟨⟨rfl, rfl⟩, ⟨Nat.le_of_ble_eq_true rfl, Nat.le_of_ble_eq_true rfl⟩, Nat.zero_le _, Nat.zero_le _⟩ (JN.ro [] rfl rfl) rfl rfl (Nat.le_of_ble_eq_true rfl) (fun H locs hP hD hS => ?_)
  refine lv_istore (lv' := [(4, .int r4), (0, .ref (a 0)), (1, .int p1), (2, .int p2), (3, .int p3)]) hx hb dX3_lots_7 hl (by decide) rfl (fun ls hl => ?_)
  refine lv_iload hx hb dX3_lots_9 (lv_at hl 0 rfl) ?_
  refine lv_if_eq (tgt := 21) hx hb dX3_lots_11 (by decide) (fun c11 => ?_) (fun c11 => ?_)
  · replace h := fx_ite_t c11 h
    refine lv_iload_n hx hb dX3_lots_21 rfl (lv_at hl 4 rfl) ?_
    refine lv_if_lt (tgt := 30) hx hb dX3_lots_22 (by decide) (fun c22 => ?_) (fun c22 => ?_)
    · replace h := fx_ite_t c22 h
      refine lv_aload_n hx hb dX3_lots_30 rfl (lv_at hl 1 rfl) ?_
      refine lv_bipush (v := (-2)) hx hb dX3_lots_31 (by decide) ?_
      obtain ⟨r33, u33_rf, q33, h⟩ := bnd2_inv h
      refine kVI (n := 1) (As := [.int (-2 : Int32)]) (rest := []) CF hl hK hP hD hS hA (c_X3_refuse l D cI a no mi ke hk sg lz rn rs rf be fh oh (-2 : Int32) r33 u33_rf q33) gX3_lots_X3_refuse rfl dX3_lots_33 (by decide +kernel) ⟨⟨rfl, rfl⟩, ⟨Nat.le_of_ble_eq_true rfl, Nat.le_of_ble_eq_true rfl⟩, Nat.zero_le _, Nat.zero_le _⟩ (JN.whole (w1 := (cX a cI no mi ke hk sg lz rn rs u33_rf be fh oh)) rfl) 0 rfl ⟨rfl, rfl⟩ rfl rfl (Nat.le_of_ble_eq_true rfl) (fun H locs hP hD hS => ?_)
      replace hP : va_P D vwCl (cX a cI no mi ke hk sg lz rn rs u33_rf be fh oh) H := hP
      replace hD : va_D A (cX a cI no mi ke hk sg lz rn rs u33_rf be fh oh) := hD
      obtain ⟨rfl, rfl, rfl⟩ := rtv3 h
      exact rI hQ hx hb hr hlocks hAe hP hS rfl rfl dX3_lots_36
    · replace h := fx_ite_f c22 h
      refine lv_iload_n hx hb dX3_lots_25 rfl (lv_at hl 4 rfl) ?_
      refine lv_iconst (v := 1) hx hb dX3_lots_26 (by decide) ?_
      refine lv_icmp_le (tgt := 37) hx hb dX3_lots_27 (by decide) (fun c27 => ?_) (fun c27 => ?_)
      · replace h := fx_ite_t c27 h
        refine lv_aload_n hx hb dX3_lots_37 rfl (lv_at hl 1 rfl) ?_
        refine va_get (D := D) (ci := 3) (v := .ref (a 1)) (C := RX3) (T := TX3) (N := 11) hx hb hts i3 hown hK hP 0 rfl rfl 0 (by decide) f10 (fun _ h9 => h9) rfl dX3_lots_38 ?_
        refine va_get (D := D) (ci := 2) (v := .int (sPe no)) (C := RX2) (T := TX2) (N := 10) hx hb hts i2 hown hK hP 1 rfl rfl 7 (by decide) f190 (fun _ h9 => h9) rfl dX3_lots_41 ?_
        refine lv_if_ne (tgt := 54) hx hb dX3_lots_44 (by decide) (fun c44 => ?_) (fun c44 => ?_)
        · replace h := fx_ite_f c44 h
          refine lv_iload_n hx hb dX3_lots_54 rfl (lv_at hl 3 rfl) ?_
          refine lv_istore (lv' := [(5, .int p2), (4, .int r4), (0, .ref (a 0)), (1, .int p1), (2, .int p2), (3, .int p3)]) hx hb dX3_lots_55 hl (by decide) rfl (fun ls hl => ?_)
          refine lv_iconst (v := 0) hx hb dX3_lots_57 (by decide) ?_
          refine lv_istore (lv' := [(6, .int (0 : Int32)), (5, .int p2), (4, .int r4), (0, .ref (a 0)), (1, .int p1), (2, .int p2), (3, .int p3)]) hx hb dX3_lots_58 hl (by decide) rfl (fun ls hl => ?_)
          refine lv_iconst (v := 0) hx hb dX3_lots_60 (by decide) ?_
          refine lv_istore (lv' := [(7, .int (0 : Int32)), (6, .int (0 : Int32)), (5, .int p2), (4, .int r4), (0, .ref (a 0)), (1, .int p1), (2, .int p2), (3, .int p3)]) hx hb dX3_lots_61 hl (by decide) rfl (fun ls hl => ?_)
          refine lv_iconst (v := 0) hx hb dX3_lots_63 (by decide) ?_
          refine lv_istore (lv' := [(8, .int (0 : Int32)), (7, .int (0 : Int32)), (6, .int (0 : Int32)), (5, .int p2), (4, .int r4), (0, .ref (a 0)), (1, .int p1), (2, .int p2), (3, .int p3)]) hx hb dX3_lots_64 hl (by decide) rfl (fun ls hl => ?_)
          exact L66 FU _ _ _ _ _ _ _ _ h  _ _ _ hP hD hS (lv_sub hl [5, 6, 8, 3, 2, 1, 0] rfl)
        · replace h := fx_ite_t c44 h
          refine lv_aload_n hx hb dX3_lots_47 rfl (lv_at hl 1 rfl) ?_
          refine lv_bipush (v := (-3)) hx hb dX3_lots_48 (by decide) ?_
          obtain ⟨r50, u50_rf, q50, h⟩ := bnd2_inv h
          refine kVI (n := 1) (As := [.int (-3 : Int32)]) (rest := []) CF hl hK hP hD hS hA (c_X3_refuse l D cI a no mi ke hk sg lz rn rs rf be fh oh (-3 : Int32) r50 u50_rf q50) gX3_lots_X3_refuse rfl dX3_lots_50 (by decide +kernel) ⟨⟨rfl, rfl⟩, ⟨Nat.le_of_ble_eq_true rfl, Nat.le_of_ble_eq_true rfl⟩, Nat.zero_le _, Nat.zero_le _⟩ (JN.whole (w1 := (cX a cI no mi ke hk sg lz rn rs u50_rf be fh oh)) rfl) 0 rfl ⟨rfl, rfl⟩ rfl rfl (Nat.le_of_ble_eq_true rfl) (fun H locs hP hD hS => ?_)
          replace hP : va_P D vwCl (cX a cI no mi ke hk sg lz rn rs u50_rf be fh oh) H := hP
          replace hD : va_D A (cX a cI no mi ke hk sg lz rn rs u50_rf be fh oh) := hD
          obtain ⟨rfl, rfl, rfl⟩ := rtv3 h
          exact rI hQ hx hb hr hlocks hAe hP hS rfl rfl dX3_lots_53
      · replace h := fx_ite_f c27 h
        refine lv_aload_n hx hb dX3_lots_30 rfl (lv_at hl 1 rfl) ?_
        refine lv_bipush (v := (-2)) hx hb dX3_lots_31 (by decide) ?_
        obtain ⟨r33, u33_rf, q33, h⟩ := bnd2_inv h
        refine kVI (n := 1) (As := [.int (-2 : Int32)]) (rest := []) CF hl hK hP hD hS hA (c_X3_refuse l D cI a no mi ke hk sg lz rn rs rf be fh oh (-2 : Int32) r33 u33_rf q33) gX3_lots_X3_refuse rfl dX3_lots_33 (by decide +kernel) ⟨⟨rfl, rfl⟩, ⟨Nat.le_of_ble_eq_true rfl, Nat.le_of_ble_eq_true rfl⟩, Nat.zero_le _, Nat.zero_le _⟩ (JN.whole (w1 := (cX a cI no mi ke hk sg lz rn rs u33_rf be fh oh)) rfl) 0 rfl ⟨rfl, rfl⟩ rfl rfl (Nat.le_of_ble_eq_true rfl) (fun H locs hP hD hS => ?_)
        replace hP : va_P D vwCl (cX a cI no mi ke hk sg lz rn rs u33_rf be fh oh) H := hP
        replace hD : va_D A (cX a cI no mi ke hk sg lz rn rs u33_rf be fh oh) := hD
        obtain ⟨rfl, rfl, rfl⟩ := rtv3 h
        exact rI hQ hx hb hr hlocks hAe hP hS rfl rfl dX3_lots_36
  · replace h := fx_ite_f c11 h
    refine lv_aload_n hx hb dX3_lots_14 rfl (lv_at hl 1 rfl) ?_
    refine lv_iload hx hb dX3_lots_15 (lv_at hl 0 rfl) ?_
    obtain ⟨r17, u17_rf, q17, h⟩ := bnd2_inv h
    refine kVI (n := 1) (As := [.int r4]) (rest := []) CF hl hK hP hD hS hA (c_X3_refuse l D cI a no mi ke hk sg lz rn rs rf be fh oh r4 r17 u17_rf q17) gX3_lots_X3_refuse rfl dX3_lots_17 (by decide +kernel) ⟨⟨rfl, rfl⟩, ⟨Nat.le_of_ble_eq_true rfl, Nat.le_of_ble_eq_true rfl⟩, Nat.zero_le _, Nat.zero_le _⟩ (JN.whole (w1 := (cX a cI no mi ke hk sg lz rn rs u17_rf be fh oh)) rfl) 0 rfl ⟨rfl, rfl⟩ rfl rfl (Nat.le_of_ble_eq_true rfl) (fun H locs hP hD hS => ?_)
    replace hP : va_P D vwCl (cX a cI no mi ke hk sg lz rn rs u17_rf be fh oh) H := hP
    replace hD : va_D A (cX a cI no mi ke hk sg lz rn rs u17_rf be fh oh) := hD
    obtain ⟨rfl, rfl, rfl⟩ := rtv3 h
    exact rI hQ hx hb hr hlocks hAe hP hS rfl rfl dX3_lots_20
/-! X3_image -/
set_option maxHeartbeats 4000000 in
set_option maxRecDepth 100000 in
theorem c_X3_image (l : Launch) (D : va_G) (cI : ClassId) (a : Nat → Nat) (no : SV) (mi : SV) (ke : SV) (hk : Int32) (sg : (Nat → Int32)) (lz : Int32) (rn : (Nat → Int32)) (rs : Int32) (rf : (Nat → Int32)) (be : (Nat → Int32)) (fh : (Nat → Int32)) (oh : (Nat → Int32))  (res : Int32) (u_ke : SV) (u_hk : Int32) (h : M_X3_image no ke hk = some (res, u_ke, u_hk)) : mI l yX3_image wsX3_image { frames := 2, cells := 0, slots := 0, locals := 61 } D cI [.ref (a 0)] (cX a cI no mi ke hk sg lz rn rs rf be fh oh) (cX a cI no mi u_ke u_hk sg lz rn rs rf be fh oh) res := by
  intro sz
  refine mStart (cc := cX3_image) (maxL := 1) (ret := (some .int)) (own := RX3) (by decide) rfl rfl (Nat.le_of_ble_eq_true rfl) (lv := [(0, .ref (a 0))]) rfl ?_
  intro p e s m args below meth c A ls Q H locs CF hr hlocks hK hP hD hS hA hAe hl hQ
  obtain ⟨hx, hb, hml, hown, hts⟩ := id CF
  have f10 := hts (.fieldLink RX3 10 "MendAnothersBreaking" "now" "LMendAnothersBreaking$State;") (List.mem_of_getElem? (i := 2) rfl)
  have f19 := hts (.fieldLink RX3 19 "MendAnothersBreaking" "kept" "LMendAnothersBreaking$State;") (List.mem_of_getElem? (i := 1) rfl)
  have f22 := hts (.fieldLink RX3 22 "MendAnothersBreaking" "hasKept" "Z") (List.mem_of_getElem? (i := 3) rfl)
  have f120 := hts (.fieldLink RX3 120 "MendAnothersBreaking$State" "day" "I") (List.mem_of_getElem? (i := 4) rfl)
  have i2 : ∀ w ∈ wsX20, w ∈ wsX3_image := fun w h => List.mem_cons_of_mem _ (List.mem_append_right _ h)
  have i3 : ∀ w ∈ wsX30, w ∈ wsX3_image := fun w h => List.mem_cons_of_mem _ (List.mem_append_left _ (List.mem_append_right _ h))
  unfold M_X3_image at h
  refine lv_aload_n hx hb dX3_image_0 rfl (lv_at hl 0 rfl) ?_
  refine va_get (D := D) (ci := 3) (v := .ref (a 17)) (C := RX3) (T := TX3) (N := 11) hx hb hts i3 hown hK hP 0 rfl rfl 2 (by decide) f19 (fun _ h9 => h9) rfl dX3_image_1 ?_
  refine lv_aload_n hx hb dX3_image_4 rfl (lv_at hl 0 rfl) ?_
  refine va_get (D := D) (ci := 3) (v := .ref (a 1)) (C := RX3) (T := TX3) (N := 11) hx hb hts i3 hown hK hP 0 rfl rfl 0 (by decide) f10 (fun _ h9 => h9) rfl dX3_image_5 ?_
  obtain ⟨u8_ke, q8, h⟩ := bnd1_inv h
  refine kVV (n := 1) (As := [.ref (a 1)]) (rest := []) CF hl hK hP hD hS hA (c_X2_become l D cI (a 17) (a 18) (a 19) (a 20) (a 21) (a 22) (a 23) (a 24) (a 1) (a 2) (a 3) (a 4) (a 5) (a 6) (a 7) (a 8) ke no  u8_ke q8) gX3_image_X2_become rfl dX3_image_8 (by decide +kernel) ⟨⟨rfl, rfl⟩, ⟨Nat.le_of_ble_eq_true rfl, Nat.le_of_ble_eq_true rfl⟩, Nat.zero_le _, Nat.zero_le _⟩ (JN.sub (wst' := (cX a cI no mi u8_ke hk sg lz rn rs rf be fh oh)) [17, 18, 19, 20, 21, 22, 23, 24, 1, 2, 3, 4, 5, 6, 7, 8] rfl rfl rfl rfl) 17 rfl ⟨rfl, rfl⟩ rfl rfl (Nat.le_of_ble_eq_true rfl) (fun H locs hP hD hS => ?_)
  replace hP : va_P D vwCl (cX a cI no mi u8_ke hk sg lz rn rs rf be fh oh) H := hP
  replace hD : va_D A (cX a cI no mi u8_ke hk sg lz rn rs rf be fh oh) := hD
  refine lv_aload_n hx hb dX3_image_11 rfl (lv_at hl 0 rfl) ?_
  refine lv_iconst (v := 1) hx hb dX3_image_12 (by decide) ?_
  refine va_put (D := D) (ci := 3) (v := .int (1 : Int32)) (ty := .boolean) (C := RX3) (T := TX3) (N := 11) hx hb hts i3 tyX3 tyX3_ok nmX3 hown hK hP hD hS 0 rfl rfl 3 (by decide) f22 (fun _ h9 => h9) rfl (by decide +kernel) rfl rfl (Nat.le_of_ble_eq_true rfl) dX3_image_13 (fun H locs hP hD hS => ?_)
  replace hP : va_P D vwCl (cX a cI no mi u8_ke (1 : Int32) sg lz rn rs rf be fh oh) H := hP
  replace hD : va_D A (cX a cI no mi u8_ke (1 : Int32) sg lz rn rs rf be fh oh) := hD
  refine lv_aload_n hx hb dX3_image_16 rfl (lv_at hl 0 rfl) ?_
  refine va_get (D := D) (ci := 3) (v := .ref (a 1)) (C := RX3) (T := TX3) (N := 11) hx hb hts i3 hown hK hP 0 rfl rfl 0 (by decide) f10 (fun _ h9 => h9) rfl dX3_image_17 ?_
  refine va_get (D := D) (ci := 2) (v := .int (sDa no)) (C := RX2) (T := TX2) (N := 10) hx hb hts i2 hown hK hP 1 rfl rfl 9 (by decide) f120 (fun _ h9 => h9) rfl dX3_image_20 ?_
  obtain ⟨rfl, rfl, rfl⟩ := rtv3 h
  exact rI hQ hx hb hr hlocks hAe hP hS rfl rfl dX3_image_23
/-! X3_on -/
set_option maxHeartbeats 4000000 in
set_option maxRecDepth 100000 in
theorem c_X3_on (l : Launch) (D : va_G) (cI : ClassId) (a : Nat → Nat) (no : SV) (mi : SV) (ke : SV) (hk : Int32) (sg : (Nat → Int32)) (lz : Int32) (rn : (Nat → Int32)) (rs : Int32) (rf : (Nat → Int32)) (be : (Nat → Int32)) (fh : (Nat → Int32)) (oh : (Nat → Int32))  (res : Int32) (u_no : SV) (u_rf : (Nat → Int32)) (h : M_X3_on no ke hk rf = some (res, u_no, u_rf)) : mI l yX3_on wsX3_on { frames := 2, cells := 0, slots := 0, locals := 61 } D cI [.ref (a 0)] (cX a cI no mi ke hk sg lz rn rs rf be fh oh) (cX a cI u_no mi ke hk sg lz rn rs u_rf be fh oh) res := by
  intro sz
  refine mStart (cc := cX3_on) (maxL := 1) (ret := (some .int)) (own := RX3) (by decide) rfl rfl (Nat.le_of_ble_eq_true rfl) (lv := [(0, .ref (a 0))]) rfl ?_
  intro p e s m args below meth c A ls Q H locs CF hr hlocks hK hP hD hS hA hAe hl hQ
  obtain ⟨hx, hb, hml, hown, hts⟩ := id CF
  have f10 := hts (.fieldLink RX3 10 "MendAnothersBreaking" "now" "LMendAnothersBreaking$State;") (List.mem_of_getElem? (i := 2) rfl)
  have f19 := hts (.fieldLink RX3 19 "MendAnothersBreaking" "kept" "LMendAnothersBreaking$State;") (List.mem_of_getElem? (i := 3) rfl)
  have f22 := hts (.fieldLink RX3 22 "MendAnothersBreaking" "hasKept" "Z") (List.mem_of_getElem? (i := 1) rfl)
  have f120 := hts (.fieldLink RX3 120 "MendAnothersBreaking$State" "day" "I") (List.mem_of_getElem? (i := 4) rfl)
  have i2 : ∀ w ∈ wsX20, w ∈ wsX3_on := fun w h => List.mem_cons_of_mem _ (List.mem_append_right _ h)
  have i3 : ∀ w ∈ wsX30, w ∈ wsX3_on := fun w h => List.mem_cons_of_mem _ (List.mem_append_left _ (List.mem_append_right _ h))
  unfold M_X3_on at h
  refine lv_aload_n hx hb dX3_on_0 rfl (lv_at hl 0 rfl) ?_
  refine va_get (D := D) (ci := 3) (v := .int hk) (C := RX3) (T := TX3) (N := 11) hx hb hts i3 hown hK hP 0 rfl rfl 3 (by decide) f22 (fun _ h9 => h9) rfl dX3_on_1 ?_
  refine lv_if_ne (tgt := 14) hx hb dX3_on_4 (by decide) (fun c4 => ?_) (fun c4 => ?_)
  · replace h := fx_ite_f c4 h
    refine lv_aload_n hx hb dX3_on_14 rfl (lv_at hl 0 rfl) ?_
    refine va_get (D := D) (ci := 3) (v := .ref (a 1)) (C := RX3) (T := TX3) (N := 11) hx hb hts i3 hown hK hP 0 rfl rfl 0 (by decide) f10 (fun _ h9 => h9) rfl dX3_on_15 ?_
    refine lv_aload_n hx hb dX3_on_18 rfl (lv_at hl 0 rfl) ?_
    refine va_get (D := D) (ci := 3) (v := .ref (a 17)) (C := RX3) (T := TX3) (N := 11) hx hb hts i3 hown hK hP 0 rfl rfl 2 (by decide) f19 (fun _ h9 => h9) rfl dX3_on_19 ?_
    obtain ⟨u22_no, q22, h⟩ := bnd1_inv h
    refine kVV (n := 1) (As := [.ref (a 17)]) (rest := []) CF hl hK hP hD hS hA (c_X2_become l D cI (a 1) (a 2) (a 3) (a 4) (a 5) (a 6) (a 7) (a 8) (a 17) (a 18) (a 19) (a 20) (a 21) (a 22) (a 23) (a 24) no ke  u22_no q22) gX3_on_X2_become rfl dX3_on_22 (by decide +kernel) ⟨⟨rfl, rfl⟩, ⟨Nat.le_of_ble_eq_true rfl, Nat.le_of_ble_eq_true rfl⟩, Nat.zero_le _, Nat.zero_le _⟩ (JN.sub (wst' := (cX a cI u22_no mi ke hk sg lz rn rs rf be fh oh)) [1, 2, 3, 4, 5, 6, 7, 8, 17, 18, 19, 20, 21, 22, 23, 24] rfl rfl rfl rfl) 1 rfl ⟨rfl, rfl⟩ rfl rfl (Nat.le_of_ble_eq_true rfl) (fun H locs hP hD hS => ?_)
    replace hP : va_P D vwCl (cX a cI u22_no mi ke hk sg lz rn rs rf be fh oh) H := hP
    replace hD : va_D A (cX a cI u22_no mi ke hk sg lz rn rs rf be fh oh) := hD
    refine lv_aload_n hx hb dX3_on_25 rfl (lv_at hl 0 rfl) ?_
    refine va_get (D := D) (ci := 3) (v := .ref (a 1)) (C := RX3) (T := TX3) (N := 11) hx hb hts i3 hown hK hP 0 rfl rfl 0 (by decide) f10 (fun _ h9 => h9) rfl dX3_on_26 ?_
    refine va_get (D := D) (ci := 2) (v := .int (sDa u22_no)) (C := RX2) (T := TX2) (N := 10) hx hb hts i2 hown hK hP 1 rfl rfl 9 (by decide) f120 (fun _ h9 => h9) rfl dX3_on_29 ?_
    obtain ⟨rfl, rfl, rfl⟩ := rtv3 h
    exact rI hQ hx hb hr hlocks hAe hP hS rfl rfl dX3_on_32
  · replace h := fx_ite_t c4 h
    refine lv_aload_n hx hb dX3_on_7 rfl (lv_at hl 0 rfl) ?_
    refine lv_bipush (v := (-3)) hx hb dX3_on_8 (by decide) ?_
    obtain ⟨r10, u10_rf, q10, h⟩ := bnd2_inv h
    refine kVI (n := 1) (As := [.int (-3 : Int32)]) (rest := []) CF hl hK hP hD hS hA (c_X3_refuse l D cI a no mi ke hk sg lz rn rs rf be fh oh (-3 : Int32) r10 u10_rf q10) gX3_on_X3_refuse rfl dX3_on_10 (by decide +kernel) ⟨⟨rfl, rfl⟩, ⟨Nat.le_of_ble_eq_true rfl, Nat.le_of_ble_eq_true rfl⟩, Nat.zero_le _, Nat.zero_le _⟩ (JN.whole (w1 := (cX a cI no mi ke hk sg lz rn rs u10_rf be fh oh)) rfl) 0 rfl ⟨rfl, rfl⟩ rfl rfl (Nat.le_of_ble_eq_true rfl) (fun H locs hP hD hS => ?_)
    replace hP : va_P D vwCl (cX a cI no mi ke hk sg lz rn rs u10_rf be fh oh) H := hP
    replace hD : va_D A (cX a cI no mi ke hk sg lz rn rs u10_rf be fh oh) := hD
    obtain ⟨rfl, rfl, rfl⟩ := rtv3 h
    exact rI hQ hx hb hr hlocks hAe hP hS rfl rfl dX3_on_13
